/-! replay: the order mixed, counting down, on both sides -/
theorem mix_d (s : OuBT) (sm : MoT) {c : Nat} (hc : c ≤ 60) : ∀ (i n1 n2 x : Nat) (oc orr : Nat → Int32), i < c → x ≤ 65536 → i < n1 → i < n2 → Ag c oc orr →
    ∃ oc' orr', Ag c oc' orr' ∧ f_X8_mix_B_L7_6 (fun (s0_2 : OuBT) => some (s0_2)) n1 (nI x) (nI i) (OuB_w_order s oc) = some (OuB_w_order s oc') ∧ ∀ K : MoT → Option (Int32 × MoT), f_X9_replay_L84_35 K n2 (nI x) (nI i) (mO sm orr) = K (mO sm orr')
  | 0, n1 + 1, n2 + 1, x, oc, orr, _, _, _, _, hA => by
    refine ⟨oc, orr, hA, ?_, fun K => ?_⟩
    · rw [f_X8_mix_B_L7_6]
      exact if_pos (show nI 0 < (1 : Int32) by decide)
    · rw [f_X9_replay_L84_35]
      exact if_pos (show nI 0 ≤ (0 : Int32) by decide)
  | i + 1, n1 + 1, n2 + 1, x, oc, orr, hi, hx, h1, h2, hA => by
    have ea : irem (((75 : Int32) * nI x) + (74 : Int32)) (65537 : Int32) = nI ((75 * x + 74) % 65537) := by
      simp (disch := omega) only [li_0, li_1, li_2, li_3, li_4, li_5, li_6, li_7, li_8, li_9, li_10, li_11, li_12, li_13, li_14, li_15, li_16, li_20, li_30, li_31, li_32, li_40, li_42, li_45, li_48, li_57, li_58, li_59, li_60, li_64, li_74, li_75, li_81, li_97, li_122, li_124, li_143, li_151, li_159, li_167, li_175, li_200, li_255, li_648, li_650, li_823, li_900, li_999, li_1123, li_1298, li_1363, li_1379, li_2592, li_6571, li_9999, li_65536, li_65537, ng1, ng2, nI_add, pk_mul, remN, divN, inbI, ixN, leN, ltN, eqN, m1E, m1E', m2E, m12, m21, bsm, glE, b2iT, b2iF, if_pos, if_neg, ite_true, ite_false, not_true, not_false_iff, reduceCtorEq]
    have hx' : (75 * x + 74) % 65537 ≤ 65536 := by omega
    generalize (75 * x + 74) % 65537 = x' at ea hx'
    have e2 : nI (i + 1) + (1 : Int32) = nI (i + 2) := nI_1 (i + 1)
    have hj : x' % (i + 2) < i + 2 := Nat.mod_lt _ (by omega)
    have e3 : irem (nI x') (nI (i + 2)) = nI (x' % (i + 2)) := remN (by omega) (by omega) (by omega)
    generalize x' % (i + 2) = j at e3 hj
    have em : nI (i + 1) + (-1 : Int32) = nI i := by
      rw [← nI_1 i, Int32.add_assoc, show (1 : Int32) + (-1) = 0 by decide, Int32.add_zero]
    have z1 : ¬ nI (i + 1) < (1 : Int32) := fun h => absurd ((ltN (a := i + 1) (b := 1) (by omega) (by omega)).mp h) (by omega)
    have z2 : ¬ nI (i + 2) = (0 : Int32) := fun h => absurd ((nI_eq (a := i + 2) (b := 0) (by omega) (by omega)).mp h) (by omega)
    have z3 : ¬ nI (i + 1) ≤ (0 : Int32) := fun h => absurd ((leN (a := i + 1) (b := 0) (by omega) (by omega)).mp h) (by omega)
    have b1 : inb (nI (i + 1)) 60 := inbN (by omega) (by omega)
    have b2 : inb (nI j) 60 := inbN (by omega) (by omega)
    have x1 : ix (nI (i + 1)) = i + 1 := ixN (by omega)
    have x2 : ix (nI j) = j := ixN (by omega)
    obtain ⟨oc', orr', w1, w2, w3⟩ := mix_d s sm hc i n1 n2 x' _ _ (by omega) hx' (by omega) (by omega) (hA.swap (i := i + 1) (j := j) hi (by omega))
    refine ⟨oc', orr', w1, ?_, fun K => ?_⟩
    · rw [f_X8_mix_B_L7_6, ea, e2, e3, em]
      refine (if_neg z1).trans ((if_pos z2).trans ((if_pos b1).trans ((if_pos b2).trans ((if_pos b1).trans ((if_pos b2).trans ?_)))))
      show f_X8_mix_B_L7_6 (fun (s0_2 : OuBT) => some (s0_2)) n1 (nI x') (nI i) (OuB_w_order s (upd (upd oc (ix (nI (i + 1))) (oc (ix (nI j)))) (ix (nI j)) (oc (ix (nI (i + 1)))))) = _
      rw [x1, x2]
      exact w2
    · rw [f_X9_replay_L84_35, ea, e2, e3, em, order_mO, mO_w, x1, x2]
      exact (if_neg z3).trans ((if_pos z2).trans ((if_pos b1).trans ((if_pos b2).trans ((if_pos b1).trans ((if_pos b2).trans (w3 K))))))
theorem mix2 (s : OuBT) (sm : MoT) {c x : Nat} (hc : c ≤ 60) (hx : x ≤ 65536) {oc orr : Nat → Int32} (hA : Ag c oc orr) :
    ∃ oc' orr', Ag c oc' orr' ∧ f_X8_mix_B (OuB_w_order s oc) (nI c) (nI x) = some (OuB_w_order s oc') ∧ ∀ K : MoT → Option (Int32 × MoT), f_X9_replay_L84_35 K 10000 (nI x) (nI c - (1 : Int32)) (mO sm orr) = K (mO sm orr') := by
  unfold f_X8_mix_B
  rcases c with _ | c
  · have e : nI 0 - (1 : Int32) = (-1 : Int32) := by decide
    rw [e]
    refine ⟨oc, orr, hA, eg ?_, fun K => ?_⟩
    · rw [f_X8_mix_B_L7_6]
      exact if_pos (by decide)
    · rw [f_X9_replay_L84_35]
      exact if_pos (by decide)
  · have e : nI (c + 1) - (1 : Int32) = nI c := subN (b := 1) (by omega)
    rw [e]
    obtain ⟨oc', orr', w1, w2, w3⟩ := mix_d s sm hc c 10000 10000 x oc orr (by omega) hx (by omega) (by omega) hA
    exact ⟨oc', orr', w1, eg w2, w3⟩
theorem c_sumAll (bd : BdT) : f_X0_sumOfAll bd = some (sumS (Bd_sums bd) 648) := by
  unfold f_X0_sumOfAll
  rw [glE, li_0]
  have main := lpi (L := fun n i (a : Int32) => f_X0_sumOfAll_L4_5 bd (fun (x1_2 : Int32) => some (x1_2)) n a i) (K := fun (x1_2 : Int32) => some (x1_2)) 648 (fun p a => a + Bd_sums bd p) ?_ ?_ (nI 0) (fuel := 10000) (by omega)
  · exact main
  · intro n a
    show f_X0_sumOfAll_L4_5 bd _ (n + 1) a (nI 648) = _
    rw [f_X0_sumOfAll_L4_5]
    exact if_pos (Int32.le_refl _)
  · intro n i a hi
    show f_X0_sumOfAll_L4_5 bd _ (n + 1) a (nI i) = f_X0_sumOfAll_L4_5 bd _ n (a + Bd_sums bd i) (nI (i + 1))
    rw [f_X0_sumOfAll_L4_5, ixN (by omega), show nI i + (1 : Int32) = nI (i + 1) from nI_1 i]
    exact (if_neg (nI_ge hi (by omega) : ¬ nI 648 ≤ nI i)).trans (if_pos (inbN hi (by omega)))
theorem SC.tr {a b d : MoT} (x : SC a b) (y : SC b d) : SC a d := ⟨y.1.trans x.1, y.2.1.trans x.2.1, y.2.2.1.trans x.2.2.1, y.2.2.2.1.trans x.2.2.2.1, y.2.2.2.2.1.trans x.2.2.2.2.1, y.2.2.2.2.2.trans x.2.2.2.2.2⟩
theorem r_asStored (sm : MoT) {c : Nat} (hc : c ≤ 60) (K : MoT → Option (Int32 × MoT)) : f_X9_replay_L55_45 (nI c) K 10000 0 (mT sm) = K (mO sm (fun j => if j < c then nI j else Mo_order (mT sm) j)) := by
  have main := lpc (L := fun n i t => f_X9_replay_L55_45 (nI c) K n i t) (K := K) c (fun i => mO sm (fun j => if j < i then nI j else Mo_order (mT sm) j)) (fuel := 10000) ?_ ?_ (by omega)
  · have e0 : mO sm (fun j => if j < 0 then nI j else Mo_order (mT sm) j) = mT sm := by
      have e : (fun j => if j < 0 then nI j else Mo_order (mT sm) j) = Mo_order (mT sm) := by funext j; rw [if_neg (by omega)]
      exact (congrArg (Mo_w_order (mT sm)) e).trans (q_ro (mT sm))
    simp only [e0] at main
    exact main
  · intro n
    show f_X9_replay_L55_45 (nI c) K (n + 1) (nI c) _ = _
    rw [f_X9_replay_L55_45]
    exact if_pos (Int32.le_refl _)
  · intro n i hi
    have e : upd (fun j => if j < i then nI j else Mo_order (mT sm) j) i (nI i) = (fun j => if j < i + 1 then nI j else Mo_order (mT sm) j) := by
      funext j
      by_cases q : j = i
      · rw [ue q, if_pos (by omega), q]
      · rw [un q]
        by_cases g : j < i
        · rw [if_pos g, if_pos (by omega)]
        · rw [if_neg g, if_neg (by omega)]
    show f_X9_replay_L55_45 (nI c) K (n + 1) (nI i) (mO sm (fun j => if j < i then nI j else Mo_order (mT sm) j)) = f_X9_replay_L55_45 (nI c) K n (nI (i + 1)) (mO sm (fun j => if j < i + 1 then nI j else Mo_order (mT sm) j))
    rw [f_X9_replay_L55_45, show nI i + (1 : Int32) = nI (i + 1) from nI_1 i]
    refine (if_neg (nI_ge hi (by omega))).trans ((if_pos (inbN (by omega) (by omega))).trans (congrArg (f_X9_replay_L55_45 (nI c) K n (nI (i + 1))) ?_))
    refine (congrArg (Mo_w_order (mO sm (fun j => if j < i then nI j else Mo_order (mT sm) j))) ((congrArg (fun z => upd z (ix (nI i)) (nI i)) (order_mO sm (fun j => if j < i then nI j else Mo_order (mT sm) j))).trans ?_)).trans (mO_w sm _ _)
    show upd (fun j => if j < i then nI j else Mo_order (mT sm) j) (ix (nI i)) (nI i) = _
    rw [ixN (by omega)]
    exact e
theorem st_replay (n : Nat) (p1 p2 : Int32) : StpR n (fun cs => fc_replay cs p1 p2) (fun sm => f_X9_replay sm p1 p2) := stp1 (fN := fun s => f_X8_replay_N s p1 p2) (fB := fun s => f_X8_replay_B s p1 p2) (fun _ => rfl) (fun _ => rfl) (fun _ _ => rfl)
  (fun sm s h => fin_n h _ 1 tr1 rfl ((if_pos h.2.2.2.1).trans rfl))
  (fun hn sm s kc vc h => by
    have nT := h.nT
    have hh := h
    obtain ⟨_, _, _, T, _, ⟨h0, hBd⟩, _, _, _, _, _, ⟨c, d1, d2, d3, d4⟩, _⟩ := hh
    rcases rng p2 2 (by omega) with ⟨j, hj, rfl, q1, q2⟩ | ⟨q, q'⟩
    · have i2 := (inQ (nI j) (m := 2) (by omega)).1 ⟨j, hj, rfl⟩
      rcases rng p1 65536 (by omega) with ⟨x, hx, rfl, q3, q4⟩ | ⟨q, q'⟩
      · have i1 := (inQ (nI x) (m := 65536) (by omega)).1 ⟨x, hx, rfl⟩
        have hA : Ag c (fun j => if j < 60 then nI j else OuB_order s j) (fun j => if j < c then nI j else Mo_order (mT sm) j) := fun q hq => by
          show (if q < 60 then nI q else _) = (if q < c then nI q else _) ∧ ∃ e, e < c ∧ (if q < 60 then nI q else _) = nI e
          rw [if_pos (by omega), if_pos (by omega)]
          exact ⟨rfl, q, hq, rfl⟩
        obtain ⟨oc, orr, hA', m1, m2⟩ := mix2 s sm d1 hx hA
        obtain ⟨bd, y, T', t1, t2, t3, t4, t5, t6, t7⟩ := trial2 hn h hBd.2.2.2.1 d2 d1 hA'
        have hnB : nB (xn y 1) := fun i hi => by rw [← t3.1 i hi]; exact t5.nB (by omega) i hi
        have hS : ∀ t, Mo_x t = y → ∀ k l r, k < 8 → l < 9 → r < 9 → (l < 8 ∨ r < 8) → f_X9_sentOf t (nI 1) (nI k) (nI l) (nI r) = some (Bd_sums bd (81 * k + 9 * l + r)) := by
          intro t ht k l r h1 h2 h3 h4
          have e := r_sent t y (b := 1) (by omega) t3.2.2.2.1 t3.2.2.1 h1 h2 h3 h4 hnB
          rw [← J_congr h1 t3.1, ← t3.2.2.2.2.2.2 k l r h1 h2 h3, ← ht, mx] at e
          exact e
        have h88 : ∀ k, k < 8 → Bd_sums bd (81 * k + 80) = nI 0 := by
          intro k hk
          have e5 := t3.2.2.2.2.2.2 k 8 8 hk (by omega) (by omega)
          rw [t7 (81 * k + 9 * 8 + 8) (by omega)] at e5
          exact e5
        obtain ⟨s', f1, f2⟩ := finds2 (sm := mo (mO sm orr) y) (x := y) (S := Bd_sums bd) (b := 1) (-1) (by omega) (mo_x _ _) hS h88
        have hsc : SC sm s' := (SC.mo (SC.mO sm orr) y).tr f2.1
        have g11 := r_get s' y (b := 1) (i := 11) (by omega) (by omega)
        rw [t3.2.2.2.2.2.1.2.2.1, ← f2.2.1, mx] at g11
        have g0 : f_X9_get (mO sm orr) 0 (nI 0) = some (nI h0) := (congrArg (fun z => f_X9_get z 0 (nI 0)) (mO_mo sm orr)).trans ((gXx (mO sm orr) (Mo_x sm) (i := 0) (by omega)).trans (congrArg some hBd.2.2.1))
        have g13 : f_X9_get (mT sm) 0 (nI 13) = some (nI c) := (gTx sm (by omega)).trans (congrArg some d3)
        have m1' : f_X8_mix_B (OuB_w_order s (fun j => if j < 60 then nI j else OuB_order s j)) (St_count (Bk_store (OuB_books s))) (nI x) = some (OuB_w_order s oc) := by rw [d2]; exact m1
        have t1' : f_X8_tryStore_B (OuB_w_order s oc) (Bd_how (Bk_board (OuB_books s))) = some (OuB_w_trial (OuB_w_order s oc) bd) := by rw [hBd.2.1]; exact t1
        have hT' : Lg_total (Bd_ledger bd) = nI T' := t3.2.2.2.2.2.1.2.1
        have ct := c_count (N := 648) (o := 0) (Bd_sums bd) (by omega) (by omega)
        rw [pre_congr 648 (g := Bd_sums bd) (fun r hr => by rw [Nat.zero_add])] at ct
        have sa := c_sumAll bd
        have fin : ∀ v, f_X8_replay_B s (nI x) (nI j) = some (v, OuB_w_trouble (OuB_w_trial (OuB_w_order s oc) bd) 0) → f_X9_replay sm (nI x) (nI j) = some (v, mG s') → ∃ r t' sm', f_X8_replay_B s (nI x) (nI j) = some (r, t') ∧ f_X9_replay sm (nI x) (nI j) = some (r, sm') ∧ RB (n + 1) kc vc t' sm' ∧ KS s sm t' sm' := fun v e1 e2 => fin_t h oc bd hsc (fun i hi => by rw [f2.2.1]; exact t6 i hi) v e1 e2
        rcases j with _ | _ | _ | j
        · refine fin (nI T') ?_ ?_
          · unfold f_X8_replay_B
            refine (if_neg q1).trans ((if_pos q2).trans ((if_neg q3).trans ((if_pos q4).trans (eb (c_order s) (eb m1' (eb t1' ((if_pos (by decide)).trans ?_)))))))
            show some (Lg_total (Bd_ledger bd), _) = _
            rw [hT']
          · unfold f_X9_replay
            exact (if_neg nT).trans (eb i2 ((if_neg (by decide)).trans (eb i1 ((if_neg (by decide)).trans (eb g13 (eg ((r_asStored sm d1 _).trans (eg ((m2 _).trans (eb g0 (eb t2 (eb f1 ((if_pos (by decide)).trans (eb g11 rfl))))))))))))))
        · refine fin (nI (pre (Bd_sums bd) 648)) ?_ ?_
          · unfold f_X8_replay_B
            exact (if_neg q1).trans ((if_pos q2).trans ((if_neg q3).trans ((if_pos q4).trans (eb (c_order s) (eb m1' (eb t1' ((if_neg (by decide)).trans ((if_pos (by decide)).trans (eb ct rfl)))))))))
          · unfold f_X9_replay
            exact (if_neg nT).trans (eb i2 ((if_neg (by decide)).trans (eb i1 ((if_neg (by decide)).trans (eb g13 (eg ((r_asStored sm d1 _).trans (eg ((m2 _).trans (eb g0 (eb t2 (eb f1 ((if_neg (by decide)).trans ((if_pos (by decide)).trans rfl))))))))))))))
        · refine fin (sumS (Bd_sums bd) 648) ?_ ?_
          · unfold f_X8_replay_B
            exact (if_neg q1).trans ((if_pos q2).trans ((if_neg q3).trans ((if_pos q4).trans (eb (c_order s) (eb m1' (eb t1' ((if_neg (by decide)).trans ((if_neg (by decide)).trans (eb sa rfl)))))))))
          · unfold f_X9_replay
            refine (if_neg nT).trans (eb i2 ((if_neg (by decide)).trans (eb i1 ((if_neg (by decide)).trans (eb g13 (eg ((r_asStored sm d1 _).trans (eg ((m2 _).trans (eb g0 (eb t2 (eb f1 ((if_neg (by decide)).trans ((if_neg (by decide)).trans ?_))))))))))))))
            show some (Mo_sumSent s', mG s') = _
            rw [f2.2.2.1]
        · omega
      · have i1 := (inQ p1 (m := 65536) (by omega)).2 q
        unfold f_X8_replay_B f_X9_replay
        refine fin_r h _ 2 tr2 ?_ ((if_neg nT).trans (eb i2 ((if_neg (by decide)).trans (eb i1 rfl))))
        rcases q' with q' | ⟨q', q''⟩
        · exact (if_neg q1).trans ((if_pos q2).trans ((if_pos q').trans rfl))
        · exact (if_neg q1).trans ((if_pos q2).trans ((if_neg q').trans ((if_neg q'').trans rfl)))
    · have i2 := (inQ p2 (m := 2) (by omega)).2 q
      unfold f_X8_replay_B f_X9_replay
      refine fin_r h _ 1 tr1 ?_ ((if_neg nT).trans (eb i2 rfl))
      rcases q' with q' | ⟨q', q''⟩
      · exact (if_pos q').trans rfl
      · exact (if_neg q').trans ((if_neg q'').trans rfl))
