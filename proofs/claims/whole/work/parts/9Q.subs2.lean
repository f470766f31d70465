/-! a subscriber catches up -/
def inW (w i j : Nat) : Prop := 648 * w ≤ j ∧ j < 648 * w + i
theorem c_catch (sb : SbT) (bd : BdT) {w : Nat} (hw : w < 4) : ∃ sb', f_X5_catchUp sb bd (nI w) = some sb' ∧ Sb_seen sb' = upd (Sb_seen sb) w (Lg_total (Bd_ledger bd)) ∧ (∀ j, Sb_holds sb' j = if 648 * w ≤ j ∧ j < 648 * w + 648 then Bd_sums bd (j - 648 * w) else Sb_holds sb j) ∧ (∀ j, Sb_differences sb' j = if 648 * w ≤ j ∧ j < 648 * w + 648 then Bd_sums bd (j - 648 * w) - Sb_holds sb j else Sb_differences sb j) := by
  have e0 : nI w * (648 : Int32) = nI (648 * w) := by
    simp (disch := omega) only [li_0, li_1, li_2, li_3, li_4, li_5, li_6, li_7, li_8, li_9, li_10, li_11, li_12, li_13, li_14, li_15, li_16, li_20, li_30, li_31, li_32, li_40, li_42, li_45, li_48, li_57, li_58, li_59, li_60, li_64, li_74, li_75, li_81, li_97, li_122, li_124, li_143, li_151, li_159, li_167, li_175, li_200, li_255, li_648, li_650, li_823, li_900, li_999, li_1123, li_1298, li_1363, li_1379, li_2592, li_6571, li_9999, li_65536, li_65537, ng1, ng2, nI_add, pk_mul, remN, divN, inbI, ixN, leN, ltN, eqN, m1E, m1E', m2E, m12, m21, bsm, glE, b2iT, b2iF, if_pos, if_neg, ite_true, ite_false, not_true, not_false_iff, reduceCtorEq]
    omega
  unfold f_X5_catchUp
  rw [glE]
  have main := lpc (L := fun n i t => f_X5_catchUp_L9_6 bd (nI w) (fun (s0_2 : SbT) => if inb (nI w) 4 then some ((Sb_w_seen s0_2 (upd (Sb_seen s0_2) (ix (nI w)) (Lg_total (Bd_ledger bd))))) else none) n i t) (K := fun (s0_2 : SbT) => if inb (nI w) 4 then some ((Sb_w_seen s0_2 (upd (Sb_seen s0_2) (ix (nI w)) (Lg_total (Bd_ledger bd))))) else none) 648
    (fun i => (Sb_seen sb, (fun j => if 648 * w ≤ j ∧ j < 648 * w + i then Bd_sums bd (j - 648 * w) else Sb_holds sb j), (fun j => if 648 * w ≤ j ∧ j < 648 * w + i then Bd_sums bd (j - 648 * w) - Sb_holds sb j else Sb_differences sb j))) (fuel := 10000) ?_ ?_ (by omega)
  · have e1 : (Sb_seen sb, (fun j => if 648 * w ≤ j ∧ j < 648 * w + 0 then Bd_sums bd (j - 648 * w) else Sb_holds sb j), (fun j => if 648 * w ≤ j ∧ j < 648 * w + 0 then Bd_sums bd (j - 648 * w) - Sb_holds sb j else Sb_differences sb j)) = sb := by
      have a1 : (fun j => if 648 * w ≤ j ∧ j < 648 * w + 0 then Bd_sums bd (j - 648 * w) else Sb_holds sb j) = Sb_holds sb := by funext j; rw [if_neg (by omega)]
      have a2 : (fun j => if 648 * w ≤ j ∧ j < 648 * w + 0 then Bd_sums bd (j - 648 * w) - Sb_holds sb j else Sb_differences sb j) = Sb_differences sb := by funext j; rw [if_neg (by omega)]
      rw [a1, a2]
    simp only [e1] at main
    refine ⟨_, main.trans (if_pos (inbN hw (by omega))), ?_, fun j => rfl, fun j => rfl⟩
    show upd (Sb_seen sb) (ix (nI w)) _ = _
    rw [ixN (by omega)]
  · intro n
    show f_X5_catchUp_L9_6 bd (nI w) _ (n + 1) (nI 648) _ = _
    rw [f_X5_catchUp_L9_6]
    exact if_pos (by decide)
  · intro n r hr
    show f_X5_catchUp_L9_6 bd (nI w) _ (n + 1) (nI r) _ = _
    rw [f_X5_catchUp_L9_6, e0, nI_add, ixN (show 648 * w + r < 2147483648 by omega), ixN (show r < 2147483648 by omega), show nI r + (1 : Int32) = nI (r + 1) from nI_1 r]
    refine (if_neg (nI_ge hr (by omega))).trans ((if_pos (inbN (by omega) (by omega))).trans ((if_pos (inbN (by omega) (by omega))).trans ((if_pos (inbN (by omega) (by omega))).trans ((if_pos (inbN (by omega) (by omega))).trans ((if_pos (inbN (by omega) (by omega))).trans ?_)))))
    show f_X5_catchUp_L9_6 bd (nI w) _ n (nI (r + 1)) (Sb_seen sb, upd (fun j => if 648 * w ≤ j ∧ j < 648 * w + r then Bd_sums bd (j - 648 * w) else Sb_holds sb j) (648 * w + r) (Bd_sums bd r), upd (fun j => if 648 * w ≤ j ∧ j < 648 * w + r then Bd_sums bd (j - 648 * w) - Sb_holds sb j else Sb_differences sb j) (648 * w + r) (Bd_sums bd r - (if 648 * w ≤ 648 * w + r ∧ 648 * w + r < 648 * w + r then Bd_sums bd (648 * w + r - 648 * w) else Sb_holds sb (648 * w + r)))) = _
    have a1 : upd (fun j => if 648 * w ≤ j ∧ j < 648 * w + r then Bd_sums bd (j - 648 * w) else Sb_holds sb j) (648 * w + r) (Bd_sums bd r) = (fun j => if 648 * w ≤ j ∧ j < 648 * w + (r + 1) then Bd_sums bd (j - 648 * w) else Sb_holds sb j) := by
      funext j
      by_cases q : j = 648 * w + r
      · rw [ue q, if_pos (by omega), q]
        congr 1
        omega
      · rw [un q]
        by_cases g : 648 * w ≤ j ∧ j < 648 * w + r
        · rw [if_pos g, if_pos (by omega)]
        · rw [if_neg g, if_neg (by omega)]
    have a2 : upd (fun j => if 648 * w ≤ j ∧ j < 648 * w + r then Bd_sums bd (j - 648 * w) - Sb_holds sb j else Sb_differences sb j) (648 * w + r) (Bd_sums bd r - (if 648 * w ≤ 648 * w + r ∧ 648 * w + r < 648 * w + r then Bd_sums bd (648 * w + r - 648 * w) else Sb_holds sb (648 * w + r))) = (fun j => if 648 * w ≤ j ∧ j < 648 * w + (r + 1) then Bd_sums bd (j - 648 * w) - Sb_holds sb j else Sb_differences sb j) := by
      funext j
      by_cases q : j = 648 * w + r
      · rw [ue q, if_neg (by omega), if_pos (by omega), q]
        congr 2
        omega
      · rw [un q]
        by_cases g : 648 * w ≤ j ∧ j < 648 * w + r
        · rw [if_pos g, if_pos (by omega)]
        · rw [if_neg g, if_neg (by omega)]
    rw [a1, a2]
def lkX (x S : Nat → Int32) (w i : Nat) : Nat → Int32 := fun j => if 1379 + 1298 * w + 2 ≤ j ∧ j < 1379 + 1298 * w + 2 + i then S (j - (1379 + 1298 * w + 2)) else if 1379 + 1298 * w + 650 ≤ j ∧ j < 1379 + 1298 * w + 650 + i then S (j - (1379 + 1298 * w + 650)) - x (j - 648) else x j
theorem r_subAt (w i : Nat) : f_X9_subAt (nI w) (nI i) = some (nI (1379 + 1298 * w + i)) := by
  unfold f_X9_subAt
  simp (disch := omega) only [li_0, li_1, li_2, li_3, li_4, li_5, li_6, li_7, li_8, li_9, li_10, li_11, li_12, li_13, li_14, li_15, li_16, li_20, li_30, li_31, li_32, li_40, li_42, li_45, li_48, li_57, li_58, li_59, li_60, li_64, li_74, li_75, li_81, li_97, li_122, li_124, li_143, li_151, li_159, li_167, li_175, li_200, li_255, li_648, li_650, li_823, li_900, li_999, li_1123, li_1298, li_1363, li_1379, li_2592, li_6571, li_9999, li_65536, li_65537, ng1, ng2, nI_add, pk_mul, remN, divN, inbI, ixN, leN, ltN, eqN, m1E, m1E', m2E, m12, m21, bsm, glE, b2iT, b2iF, if_pos, if_neg, ite_true, ite_false, not_true, not_false_iff, reduceCtorEq]
theorem gXx (m : MoT) (x : Nat → Int32) {i : Nat} (hi : i < 6571) : f_X9_get (mo m x) 0 (nI i) = some (x i) := by
  have := r_get m x (b := 0) (i := i) (by omega) hi
  rw [show 6571 * 0 + i = i by omega] at this
  exact this
theorem sX (m : MoT) (x : Nat → Int32) {i : Nat} (v : Int32) (hi : i < 6571) : f_X9_set (mo m x) 0 (nI i) v = some (mo m (upd x i v)) := by
  have := r_set m x (b := 0) (i := i) v (by omega) hi
  rw [show 6571 * 0 + i = i by omega] at this
  exact this
theorem moX (m : MoT) (x : Nat → Int32) {i : Nat} (v : Int32) (hi : i < 6571) : f_X9_more (mo m x) 0 (nI i) v = some (mo m (upd x i (x i + v))) := by
  have := r_more m x (b := 0) (i := i) v (by omega) hi
  rw [show 6571 * 0 + i = i by omega] at this
  exact this
theorem r_looks (m : MoT) (x S : Nat → Int32) {w : Nat} (hw : w < 4) (hS : ∀ y, (∀ i, i < 1379 → y i = x i) → ∀ p, p < 648 → f_X9_sentAt (mo m y) (nI p) = some (S p)) :
    f_X9_looks (mo m x) (nI w) = some (nI (pre (fun r => S r - x (1379 + 1298 * w + 2 + r)) 648), mo m (upd (lkX x S w 648) (1379 + 1298 * w + 1) (x 11))) := by
  unfold f_X9_looks
  rw [glE, li_0]
  have e0 : lkX x S w 0 = x := by
    funext j
    unfold lkX
    rw [if_neg (by omega), if_neg (by omega)]
  have main := lpc (L := fun n i (p : Int32 × MoT) => f_X9_looks_L4_13 (nI w) (fun (x2_2 : Int32) (s0_3 : MoT) => (f_X9_subAt (nI w) (1 : Int32)).bind fun r4 => (f_X9_get s0_3 (nI 0) (11 : Int32)).bind fun r6 => (f_X9_set s0_3 (nI 0) r4 r6).bind fun r8 => some (x2_2, r8)) n p.1 i p.2) (K := fun (p : Int32 × MoT) => (f_X9_subAt (nI w) (1 : Int32)).bind fun r4 => (f_X9_get p.2 (nI 0) (11 : Int32)).bind fun r6 => (f_X9_set p.2 (nI 0) r4 r6).bind fun r8 => some (p.1, r8)) 648
    (fun i => (nI (pre (fun r => S r - x (1379 + 1298 * w + 2 + r)) i), mo m (lkX x S w i))) (fuel := 10000) ?_ ?_ (by omega)
  · have main' : f_X9_looks_L4_13 (nI w) (fun (x2_2 : Int32) (s0_3 : MoT) => (f_X9_subAt (nI w) (1 : Int32)).bind fun r4 => (f_X9_get s0_3 (nI 0) (11 : Int32)).bind fun r6 => (f_X9_set s0_3 (nI 0) r4 r6).bind fun r8 => some (x2_2, r8)) 10000 (nI 0) (nI 0) (mo m (lkX x S w 0)) = ((f_X9_subAt (nI w) (1 : Int32)).bind fun r4 => (f_X9_get (mo m (lkX x S w 648)) (nI 0) (11 : Int32)).bind fun r6 => (f_X9_set (mo m (lkX x S w 648)) (nI 0) r4 r6).bind fun r8 => some (nI (pre (fun r => S r - x (1379 + 1298 * w + 2 + r)) 648), r8)) := main
    rw [e0] at main'
    refine main'.trans (eb (r_subAt w 1) (eb (gXx m _ (i := 11) (by omega)) (eb (sX m _ _ (by omega)) ?_)))
    rw [show lkX x S w 648 11 = x 11 from by unfold lkX; rw [if_neg (by omega), if_neg (by omega)]]
  · intro n
    show f_X9_looks_L4_13 (nI w) _ (n + 1) _ (nI 648) _ = _
    rw [f_X9_looks_L4_13]
    exact if_pos (by decide)
  · intro n r hr
    have s1 := hS (lkX x S w r) (fun i hi => by unfold lkX; rw [if_neg (by omega), if_neg (by omega)]) r hr
    have i2 : (2 : Int32) + nI r = nI (2 + r) := nI_add 2 r
    have i650 : (650 : Int32) + nI r = nI (650 + r) := nI_add 650 r
    have v1 : lkX x S w r (1379 + 1298 * w + (2 + r)) = x (1379 + 1298 * w + 2 + r) := by
      unfold lkX
      rw [if_neg (by omega), if_neg (by omega)]
      congr 1
      omega
    have g1 := gXx m (lkX x S w r) (i := 1379 + 1298 * w + (2 + r)) (by omega)
    rw [v1] at g1
    have g2 := sX m (lkX x S w r) (i := 1379 + 1298 * w + (650 + r)) (S r - x (1379 + 1298 * w + 2 + r)) (by omega)
    have g3 := moX m (upd (lkX x S w r) (1379 + 1298 * w + (650 + r)) (S r - x (1379 + 1298 * w + 2 + r))) (i := 1379 + 1298 * w + (2 + r)) (S r - x (1379 + 1298 * w + 2 + r)) (by omega)
    have e1 : upd (upd (lkX x S w r) (1379 + 1298 * w + (650 + r)) (S r - x (1379 + 1298 * w + 2 + r))) (1379 + 1298 * w + (2 + r)) (upd (lkX x S w r) (1379 + 1298 * w + (650 + r)) (S r - x (1379 + 1298 * w + 2 + r)) (1379 + 1298 * w + (2 + r)) + (S r - x (1379 + 1298 * w + 2 + r))) = lkX x S w (r + 1) := by
      funext j
      by_cases q : j = 1379 + 1298 * w + (2 + r)
      · rw [ue q, un (by omega), v1]
        unfold lkX
        rw [if_pos (by omega), q, Int32.add_comm, Int32.sub_add_cancel]
        congr 1
        omega
      · rw [un q]
        by_cases q2 : j = 1379 + 1298 * w + (650 + r)
        · rw [ue q2]
          unfold lkX
          rw [if_neg (by omega), if_pos (by omega), q2, show 1379 + 1298 * w + (650 + r) - (1379 + 1298 * w + 650) = r by omega, show 1379 + 1298 * w + (650 + r) - 648 = 1379 + 1298 * w + 2 + r by omega]
        · rw [un q2]
          unfold lkX
          by_cases g : 1379 + 1298 * w + 2 ≤ j ∧ j < 1379 + 1298 * w + 2 + r
          · rw [if_pos g, if_pos (by omega)]
          · rw [if_neg g, if_neg (show ¬ (1379 + 1298 * w + 2 ≤ j ∧ j < 1379 + 1298 * w + 2 + (r + 1)) by omega)]
            by_cases g2 : 1379 + 1298 * w + 650 ≤ j ∧ j < 1379 + 1298 * w + 650 + r
            · rw [if_pos g2, if_pos (by omega)]
            · rw [if_neg g2, if_neg (by omega)]
    rw [e1] at g3
    show f_X9_looks_L4_13 (nI w) _ (n + 1) (nI (pre (fun r => S r - x (1379 + 1298 * w + 2 + r)) r)) (nI r) (mo m (lkX x S w r)) = f_X9_looks_L4_13 (nI w) _ n (nI (if S r - x (1379 + 1298 * w + 2 + r) = nI 0 then pre (fun r => S r - x (1379 + 1298 * w + 2 + r)) r else pre (fun r => S r - x (1379 + 1298 * w + 2 + r)) r + 1)) (nI (r + 1)) (mo m (lkX x S w (r + 1)))
    rw [f_X9_looks_L4_13, i2, i650, show nI r + (1 : Int32) = nI (r + 1) from nI_1 r, show nI (pre (fun r => S r - x (1379 + 1298 * w + 2 + r)) r) + (0 : Int32) = nI (pre (fun r => S r - x (1379 + 1298 * w + 2 + r)) r) from z1 _, show nI (pre (fun r => S r - x (1379 + 1298 * w + 2 + r)) r) + (1 : Int32) = nI (pre (fun r => S r - x (1379 + 1298 * w + 2 + r)) r + 1) from nI_1 _]
    refine (if_neg (nI_ge hr (by omega))).trans (eb s1 (eb (r_subAt w (2 + r)) (eb g1 (eb (r_subAt w (650 + r)) (eb g2 (eb (r_subAt w (2 + r)) (eb g3 ?_)))))))
    by_cases q : S r - x (1379 + 1298 * w + 2 + r) = nI 0
    · rw [if_pos q]
      exact if_pos q
    · rw [if_neg q]
      exact if_neg q
/-- the desk with another state of its subscribers -/
theorem RB.sub {n kc vc T : Nat} {s : OuBT} {sm : MoT} {sb' : SbT} {y : Nat → Int32} (h : RB n kc vc s sm) (hT : T ≤ 960 * n) (hR : RBk 0 kc vc T (360 * n) (OuB_books s) (Mo_words sm) (Mo_x sm)) (hy : ∀ i, (i < 1379 ∨ 6571 ≤ i) → y i = Mo_x sm i) (hSb : RSb 0 T sb' y) :
    RB (n + 1) kc vc (OuB_w_trouble (OuB_w_books s (Bk_w_subscribers (OuB_books s) sb')) 0) (mG (mo (mT sm) y)) ∧ KS s sm (OuB_w_trouble (OuB_w_books s (Bk_w_subscribers (OuB_books s) sb')) 0) (mG (mo (mT sm) y)) := by
  refine h.put (T' := T) (by omega) ?_ (fun i hi => hy i (by omega))
  obtain ⟨⟨g, a1, a2, a3, a4, a5, a6, a7⟩, h2, h3, h4, h5, h6, h7, h8, h9⟩ := hR
  refine RBk.mono (B := 360 * n) ⟨⟨g, fun i hi => by unfold xn; rw [hy _ (by omega)]; exact a1 i hi, a2, by rw [hy _ (by omega)]; exact a3, a4, fun i hi => by rw [hy _ (by omega)]; exact a5 i hi, RL_fr a6 (fun i hi => hy _ (by omega)), fun k l r p1 p2 p3 => by rw [hy _ (by omega)]; exact a7 k l r p1 p2 p3⟩, h2.fr (hy _ (by omega)) (hy _ (by omega)), h3.fr (fun i _ _ => hy _ (by omega)), ?_, h5.fr (fun i hi => hy _ (by omega)), ⟨h6.1, fun k l r p1 p2 p3 p4 => h6.2 k l r p1 p2 p3 (by rw [hy _ (by omega)] at p4; exact p4)⟩, h7.fr (hy _ (by omega)) (fun i _ _ => hy _ (by omega)), hSb, h9⟩ (by omega)
  intro k hk
  rw [hy _ (by omega), hy _ (by omega)]
  exact h4 k hk
