/-! a key's lapse on both sides -/
def zN (nt : Nat → Int32) (k n : Nat) : Nat → Int32 := fun i => if i < 64 * n ∧ i / 8 % 8 = k then nI 0 else nt i
def zT (tu nt : Nat → Int32) (k n : Nat) : Nat → Int32 := fun i => if i < 8 * n ∧ i % 8 = k ∧ hsB nt (i / 8) k = true then tu i + nI 1 else tu i
theorem c_e1 (bd : BdT) {s k : Nat} (hs : s < 2) (hk : k < 8) (nt : Nat → Int32) (K : BdT → Option BdT) : f_X0_emptyKey_L33_16 (nI k) (nI s) K 10000 0 (Bd_w_nets bd (zN nt k s)) = K (Bd_w_nets bd (zN nt k (s + 1))) := by
  rw [li_0]
  have e0 : (Bd_w_nets bd (zN nt k s)) = (fun j => Bd_w_nets bd (fun i => if (s * 8 + k) * 8 ≤ i ∧ i < (s * 8 + k) * 8 + j then nI 0 else zN nt k s i)) 0 := by
    show _ = Bd_w_nets bd (fun i => if (s * 8 + k) * 8 ≤ i ∧ i < (s * 8 + k) * 8 + 0 then nI 0 else zN nt k s i)
    congr 1
    funext i
    rw [if_neg (by omega)]
  have e8 : (Bd_w_nets bd (zN nt k (s + 1))) = (fun j => Bd_w_nets bd (fun i => if (s * 8 + k) * 8 ≤ i ∧ i < (s * 8 + k) * 8 + j then nI 0 else zN nt k s i)) 8 := by
    show _ = Bd_w_nets bd (fun i => if (s * 8 + k) * 8 ≤ i ∧ i < (s * 8 + k) * 8 + 8 then nI 0 else zN nt k s i)
    congr 1
    funext i
    unfold zN
    by_cases g1 : (s * 8 + k) * 8 ≤ i ∧ i < (s * 8 + k) * 8 + 8
    · rw [if_pos g1, if_pos (by omega)]
    · rw [if_neg g1]
      by_cases g2 : i < 64 * s ∧ i / 8 % 8 = k
      · rw [if_pos g2, if_pos (by omega)]
      · rw [if_neg g2, if_neg (by omega)]
  rw [e0, e8]
  refine lpc (L := fun n i t => f_X0_emptyKey_L33_16 (nI k) (nI s) K n i t) (K := K) 8 (fun j => Bd_w_nets bd (fun i => if (s * 8 + k) * 8 ≤ i ∧ i < (s * 8 + k) * 8 + j then nI 0 else zN nt k s i)) ?_ ?_ (by omega)
  · intro n
    simp (disch := omega) only [li_0, li_1, li_2, li_3, li_4, li_5, li_6, li_7, li_8, li_9, li_10, li_11, li_12, li_13, li_14, li_15, li_16, li_20, li_30, li_31, li_32, li_40, li_42, li_45, li_48, li_57, li_58, li_59, li_60, li_64, li_74, li_75, li_81, li_97, li_122, li_124, li_143, li_151, li_159, li_167, li_175, li_200, li_255, li_648, li_650, li_823, li_900, li_999, li_1123, li_1298, li_1363, li_1379, li_2592, li_6571, li_9999, li_65536, li_65537, ng1, ng2, nI_add, pk_mul, remN, divN, inbI, ixN, leN, ltN, eqN, m1E, m1E', m2E, m12, m21, bsm, glE, b2iT, b2iF, if_pos, if_neg, ite_true, ite_false, not_true, not_false_iff, reduceCtorEq, f_X0_emptyKey_L33_16]
  · intro n j hj
    have e : upd (fun i => if (s * 8 + k) * 8 ≤ i ∧ i < (s * 8 + k) * 8 + j then nI 0 else zN nt k s i) ((s * 8 + k) * 8 + j) (nI 0) = (fun i => if (s * 8 + k) * 8 ≤ i ∧ i < (s * 8 + k) * 8 + (j + 1) then nI 0 else zN nt k s i) := by
      funext i
      by_cases g : i = (s * 8 + k) * 8 + j
      · rw [ue g, if_pos (by omega)]
      · rw [un g]
        by_cases g1 : (s * 8 + k) * 8 ≤ i ∧ i < (s * 8 + k) * 8 + j
        · rw [if_pos g1, if_pos (by omega)]
        · rw [if_neg g1, if_neg (by omega)]
    have c := c_np s k j
    rw [← e]
    simp (disch := omega) only [li_0, li_1, li_2, li_3, li_4, li_5, li_6, li_7, li_8, li_9, li_10, li_11, li_12, li_13, li_14, li_15, li_16, li_20, li_30, li_31, li_32, li_40, li_42, li_45, li_48, li_57, li_58, li_59, li_60, li_64, li_74, li_75, li_81, li_97, li_122, li_124, li_143, li_151, li_159, li_167, li_175, li_200, li_255, li_648, li_650, li_823, li_900, li_999, li_1123, li_1298, li_1363, li_1379, li_2592, li_6571, li_9999, li_65536, li_65537, ng1, ng2, nI_add, pk_mul, remN, divN, inbI, ixN, leN, ltN, eqN, m1E, m1E', m2E, m12, m21, bsm, glE, b2iT, b2iF, if_pos, if_neg, ite_true, ite_false, not_true, not_false_iff, reduceCtorEq, f_X0_emptyKey_L33_16, c]
theorem zN_hs {nt : Nat → Int32} {k s : Nat} (hk : k < 8) (hs : s < 2) : hsB (zN nt k s) s k = hsB nt s k := by
  unfold hsB
  refine anyB_congr (fun v hv => ?_)
  have e : zN nt k s ((s * 8 + k) * 8 + v) = nt ((s * 8 + k) * 8 + v) := by
    unfold zN
    rw [if_neg (by omega)]
  rw [e]
theorem c_empty (bd : BdT) {k : Nat} (hk : k < 8) : f_X0_emptyKey bd (nI k) = some (Bd_w_turns (Bd_w_nets bd (zN (Bd_nets bd) k 2)) (zT (Bd_turns bd) (Bd_nets bd) k 2)) := by
  unfold f_X0_emptyKey
  rw [glE, li_0]
  have e0 : Bd_w_turns (Bd_w_nets bd (zN (Bd_nets bd) k 0)) (zT (Bd_turns bd) (Bd_nets bd) k 0) = bd := by
    have e1 : zN (Bd_nets bd) k 0 = Bd_nets bd := by funext i; unfold zN; rw [if_neg (by omega)]
    have e2 : zT (Bd_turns bd) (Bd_nets bd) k 0 = Bd_turns bd := by funext i; unfold zT; rw [if_neg (by omega)]
    rw [e1, e2]
  have main := lpc (L := fun n i t => f_X0_emptyKey_L2_5 (nI k) (fun s => some s) n i t) (K := fun s => some s) 2 (fun s => Bd_w_turns (Bd_w_nets bd (zN (Bd_nets bd) k s)) (zT (Bd_turns bd) (Bd_nets bd) k s)) (fuel := 10000) ?_ ?_ (by omega)
  · have main' : f_X0_emptyKey_L2_5 (nI k) (fun s => some s) 10000 (nI 0) (Bd_w_turns (Bd_w_nets bd (zN (Bd_nets bd) k 0)) (zT (Bd_turns bd) (Bd_nets bd) k 0)) = some (Bd_w_turns (Bd_w_nets bd (zN (Bd_nets bd) k 2)) (zT (Bd_turns bd) (Bd_nets bd) k 2)) := main
    rw [e0] at main'
    exact main'
  · intro n
    simp (disch := omega) only [li_0, li_1, li_2, li_3, li_4, li_5, li_6, li_7, li_8, li_9, li_10, li_11, li_12, li_13, li_14, li_15, li_16, li_20, li_30, li_31, li_32, li_40, li_42, li_45, li_48, li_57, li_58, li_59, li_60, li_64, li_74, li_75, li_81, li_97, li_122, li_124, li_143, li_151, li_159, li_167, li_175, li_200, li_255, li_648, li_650, li_823, li_900, li_999, li_1123, li_1298, li_1363, li_1379, li_2592, li_6571, li_9999, li_65536, li_65537, ng1, ng2, nI_add, pk_mul, remN, divN, inbI, ixN, leN, ltN, eqN, m1E, m1E', m2E, m12, m21, bsm, glE, b2iT, b2iF, if_pos, if_neg, ite_true, ite_false, not_true, not_false_iff, reduceCtorEq, f_X0_emptyKey_L2_5]
  · intro n s hs
    have c1 : f_X0_has (Bd_w_turns (Bd_w_nets bd (zN (Bd_nets bd) k s)) (zT (Bd_turns bd) (Bd_nets bd) k s)) (nI s) (nI k) = some (b2i (hsB (Bd_nets bd) s k)) := by
      rw [c_has _ hs hk]
      exact congrArg (fun q => some (b2i q)) (zN_hs hk hs)
    have e16 : (nI s * (8 : Int32)) + nI k = nI (s * 8 + k) := by
      simp (disch := omega) only [li_0, li_1, li_2, li_3, li_4, li_5, li_6, li_7, li_8, li_9, li_10, li_11, li_12, li_13, li_14, li_15, li_16, li_20, li_30, li_31, li_32, li_40, li_42, li_45, li_48, li_57, li_58, li_59, li_60, li_64, li_74, li_75, li_81, li_97, li_122, li_124, li_143, li_151, li_159, li_167, li_175, li_200, li_255, li_648, li_650, li_823, li_900, li_999, li_1123, li_1298, li_1363, li_1379, li_2592, li_6571, li_9999, li_65536, li_65537, ng1, ng2, nI_add, pk_mul, remN, divN, inbI, ixN, leN, ltN, eqN, m1E, m1E', m2E, m12, m21, bsm, glE, b2iT, b2iF, if_pos, if_neg, ite_true, ite_false, not_true, not_false_iff, reduceCtorEq]
    have hI : inb (nI (s * 8 + k)) 16 := inbN (by omega) (by omega)
    have hix : ix (nI (s * 8 + k)) = s * 8 + k := ixN (by omega)
    have hT : ∀ tu', (∀ i, tu' i = zT (Bd_turns bd) (Bd_nets bd) k (s + 1) i) → f_X0_emptyKey_L33_16 (nI k) (nI s) (fun s0_13 => f_X0_emptyKey_L2_5 (nI k) (fun s => some s) n (nI (s + 1)) s0_13) 10000 0 (Bd_w_turns (Bd_w_nets bd (zN (Bd_nets bd) k s)) tu') = f_X0_emptyKey_L2_5 (nI k) (fun s => some s) n (nI (s + 1)) (Bd_w_turns (Bd_w_nets bd (zN (Bd_nets bd) k (s + 1))) (zT (Bd_turns bd) (Bd_nets bd) k (s + 1))) := by
      intro tu' h
      rw [funext h]
      exact c_e1 (Bd_w_turns bd (zT (Bd_turns bd) (Bd_nets bd) k (s + 1))) hs hk (Bd_nets bd) _
    rw [f_X0_emptyKey_L2_5]
    refine (if_neg (nI_ge hs (by omega))).trans (eb c1 (eg ?_))
    rw [e16, hix]
    show _ = f_X0_emptyKey_L2_5 (nI k) (fun s => some s) n (nI (s + 1)) (Bd_w_turns (Bd_w_nets bd (zN (Bd_nets bd) k (s + 1))) (zT (Bd_turns bd) (Bd_nets bd) k (s + 1)))
    have e1 : nI s + (1 : Int32) = nI (s + 1) := nI_1 s
    cases hh : hsB (Bd_nets bd) s k
    · refine (if_pos rfl).trans (eg ?_)
      rw [e1]
      refine hT (zT (Bd_turns bd) (Bd_nets bd) k s) (fun i => ?_)
      unfold zT
      by_cases g : i < 8 * s ∧ i % 8 = k ∧ hsB (Bd_nets bd) (i / 8) k = true
      · rw [if_pos g, if_pos ⟨by omega, g.2.1, g.2.2⟩]
      · rw [if_neg g]
        by_cases g2 : i < 8 * (s + 1) ∧ i % 8 = k ∧ hsB (Bd_nets bd) (i / 8) k = true
        · have g3 : ¬ i < 8 * s := fun q => g ⟨q, g2.2⟩
          have : i / 8 = s := by omega
          rw [this, hh] at g2
          exact absurd g2.2.2 (by simp)
        · rw [if_neg g2]
    · refine (if_neg b10).trans ((if_pos hI).trans ((if_pos hI).trans (eg ?_)))
      rw [e1]
      refine hT (upd (zT (Bd_turns bd) (Bd_nets bd) k s) (s * 8 + k) (zT (Bd_turns bd) (Bd_nets bd) k s (s * 8 + k) + nI 1)) (fun i => ?_)
      unfold zT
      by_cases g : i = s * 8 + k
      · rw [ue g, if_neg (by omega)]
        have a1 : i / 8 = s := by omega
        rw [if_pos ⟨by omega, by omega, by rw [a1]; exact hh⟩, g]
      · rw [un g]
        by_cases g1 : i < 8 * s ∧ i % 8 = k ∧ hsB (Bd_nets bd) (i / 8) k = true
        · rw [if_pos g1, if_pos ⟨by omega, g1.2.1, g1.2.2⟩]
        · rw [if_neg g1, if_neg (fun g2 => g1 ⟨by omega, g2.2.1, g2.2.2⟩)]
/-! the reference's lapse of a key -/
def clo (x : Nat → Int32) (b k n : Nat) (f : Nat → Int32) : Nat → Int32 := fun i => if 6571 * b + 175 + 81 * k ≤ i ∧ i < 6571 * b + 175 + 81 * k + n ∧ i ≠ 6571 * b + 175 + 81 * k + 80 then x i + f (i - (6571 * b + 175 + 81 * k)) else x i
def flX (x nt : Nat → Int32) (b k n : Nat) : Nat → Int32 := fun i => if 6571 * b + 1363 ≤ i ∧ i < 6571 * b + 1363 + 8 * n ∧ (i - (6571 * b + 1363)) % 8 = k ∧ hsB nt ((i - (6571 * b + 1363)) / 8) k = true then x i + nI 1 else x i
def zX (x : Nat → Int32) (b k n : Nat) : Nat → Int32 := fun i => if (6571 * b + 15 + 8 * k ≤ i ∧ i < 6571 * b + 15 + 8 * k + n) ∨ (6571 * b + 79 + 8 * k ≤ i ∧ i < 6571 * b + 79 + 8 * k + n) then nI 0 else x i
theorem r_closes (sm : MoT) (y : Nat → Int32) {b h k l r : Nat} (hb : b < 3) (hh : h < 4) (he : y (6571 * b) = nI h) (hk : k < 8) (hl : l < 9) (hr : r < 9) (hlr : l < 8 ∨ r < 8) (hB : nB (xn y b)) : f_X9_closes (mo sm y) (nI b) (nI k) (nI l) (nI r) = some (mo sm (upd y (6571 * b + (175 + 81 * k + 9 * l + r)) (y (6571 * b + (175 + 81 * k + 9 * l + r)) + J (xn y b) h k l r))) := by
  have c1 : f_X9_closedAt (nI k) (nI l) (nI r) = some (nI (175 + 81 * k + 9 * l + r)) := by
    unfold f_X9_closedAt
    simp (disch := omega) only [li_0, li_1, li_2, li_3, li_4, li_5, li_6, li_7, li_8, li_9, li_10, li_11, li_12, li_13, li_14, li_15, li_16, li_20, li_30, li_31, li_32, li_40, li_42, li_45, li_48, li_57, li_58, li_59, li_60, li_64, li_74, li_75, li_81, li_97, li_122, li_124, li_143, li_151, li_159, li_167, li_175, li_200, li_255, li_648, li_650, li_823, li_900, li_999, li_1123, li_1298, li_1363, li_1379, li_2592, li_6571, li_9999, li_65536, li_65537, ng1, ng2, nI_add, pk_mul, remN, divN, inbI, ixN, leN, ltN, eqN, m1E, m1E', m2E, m12, m21, bsm, glE, b2iT, b2iF, if_pos, if_neg, ite_true, ite_false, not_true, not_false_iff, reduceCtorEq]
    congr 2
    omega
  have c2 := r_jn sm y hb hh he hk hl hr hlr hB
  have c3 := r_more sm y (b := b) (i := 175 + 81 * k + 9 * l + r) (J (xn y b) h k l r) hb (by omega)
  unfold f_X9_closes
  rw [c1, bsm, c2, bsm, c3, bsm]
theorem clo_xn {x : Nat → Int32} {b k n : Nat} {f : Nat → Int32} : ∀ i, i < 128 → xn (clo x b k n f) b i = xn x b i := fun i hi => by
  unfold xn clo
  rw [if_neg (by omega)]
theorem clo_step {x : Nat → Int32} {b k q : Nat} {f : Nat → Int32} (hq : q ≠ 80) : upd (clo x b k q f) (6571 * b + 175 + 81 * k + q) (clo x b k q f (6571 * b + 175 + 81 * k + q) + f q) = clo x b k (q + 1) f := by
  funext i
  by_cases g : i = 6571 * b + 175 + 81 * k + q
  · rw [ue g, g]
    unfold clo
    rw [if_neg (by omega), if_pos (by omega)]
    congr 2
    omega
  · rw [un g]
    unfold clo
    by_cases g1 : 6571 * b + 175 + 81 * k ≤ i ∧ i < 6571 * b + 175 + 81 * k + q ∧ i ≠ 6571 * b + 175 + 81 * k + 80
    · rw [if_pos g1, if_pos (by omega)]
    · rw [if_neg g1, if_neg (by omega)]
theorem clo_skip {x : Nat → Int32} {b k : Nat} {f : Nat → Int32} : clo x b k 80 f = clo x b k 81 f := by
  funext i
  unfold clo
  by_cases g1 : 6571 * b + 175 + 81 * k ≤ i ∧ i < 6571 * b + 175 + 81 * k + 80 ∧ i ≠ 6571 * b + 175 + 81 * k + 80
  · rw [if_pos g1, if_pos (by omega)]
  · rw [if_neg g1, if_neg (by omega)]
theorem r_clo1 (sm : MoT) (x : Nat → Int32) {b h k l : Nat} (K : MoT → Option (Int32 × MoT)) (hb : b < 3) (hh : h < 4) (he : x (6571 * b) = nI h) (hk : k < 8) (hl : l < 9) (hB : nB (xn x b)) : f_X9_lapses_L61_64 (nI b) (nI k) (nI l) K 10000 0 (mo sm (clo x b k (9 * l) (fun q => J (xn x b) h k (q / 9) (q % 9)))) = K (mo sm (clo x b k (9 * (l + 1)) (fun q => J (xn x b) h k (q / 9) (q % 9)))) := by
  rw [li_0]
  refine lpc (L := fun n i t => f_X9_lapses_L61_64 (nI b) (nI k) (nI l) K n i t) (K := K) 9 (fun r => mo sm (clo x b k (9 * l + r) (fun q => J (xn x b) h k (q / 9) (q % 9)))) ?_ ?_ (by omega)
  · intro n
    simp (disch := omega) only [li_0, li_1, li_2, li_3, li_4, li_5, li_6, li_7, li_8, li_9, li_10, li_11, li_12, li_13, li_14, li_15, li_16, li_20, li_30, li_31, li_32, li_40, li_42, li_45, li_48, li_57, li_58, li_59, li_60, li_64, li_74, li_75, li_81, li_97, li_122, li_124, li_143, li_151, li_159, li_167, li_175, li_200, li_255, li_648, li_650, li_823, li_900, li_999, li_1123, li_1298, li_1363, li_1379, li_2592, li_6571, li_9999, li_65536, li_65537, ng1, ng2, nI_add, pk_mul, remN, divN, inbI, ixN, leN, ltN, eqN, m1E, m1E', m2E, m12, m21, bsm, glE, b2iT, b2iF, if_pos, if_neg, ite_true, ite_false, not_true, not_false_iff, reduceCtorEq, f_X9_lapses_L61_64]
  · intro n r hr
    by_cases hlr : l < 8 ∨ r < 8
    · have he' : clo x b k (9 * l + r) (fun q => J (xn x b) h k (q / 9) (q % 9)) (6571 * b) = nI h := by
        unfold clo
        rw [if_neg (by omega)]
        exact he
      have hB' : nB (xn (clo x b k (9 * l + r) (fun q => J (xn x b) h k (q / 9) (q % 9))) b) := fun i hi => by rw [clo_xn i hi]; exact hB i hi
      have c1 := r_closes sm _ hb hh he' hk hl hr hlr hB'
      rw [J_congr hk clo_xn, show 6571 * b + (175 + 81 * k + 9 * l + r) = 6571 * b + 175 + 81 * k + (9 * l + r) by omega] at c1
      have e1 := clo_step (x := x) (b := b) (k := k) (q := 9 * l + r) (f := fun q => J (xn x b) h k (q / 9) (q % 9)) (by omega)
      have e2 : (9 * l + r) / 9 = l := by omega
      have e3 : (9 * l + r) % 9 = r := by omega
      simp only [e2, e3] at e1
      rw [e1] at c1
      by_cases g : l < 8
      · simp (disch := omega) only [li_0, li_1, li_2, li_3, li_4, li_5, li_6, li_7, li_8, li_9, li_10, li_11, li_12, li_13, li_14, li_15, li_16, li_20, li_30, li_31, li_32, li_40, li_42, li_45, li_48, li_57, li_58, li_59, li_60, li_64, li_74, li_75, li_81, li_97, li_122, li_124, li_143, li_151, li_159, li_167, li_175, li_200, li_255, li_648, li_650, li_823, li_900, li_999, li_1123, li_1298, li_1363, li_1379, li_2592, li_6571, li_9999, li_65536, li_65537, ng1, ng2, nI_add, pk_mul, remN, divN, inbI, ixN, leN, ltN, eqN, m1E, m1E', m2E, m12, m21, bsm, glE, b2iT, b2iF, if_pos, if_neg, ite_true, ite_false, not_true, not_false_iff, reduceCtorEq, f_X9_lapses_L61_64, c1]
        rfl
      · simp (disch := omega) only [li_0, li_1, li_2, li_3, li_4, li_5, li_6, li_7, li_8, li_9, li_10, li_11, li_12, li_13, li_14, li_15, li_16, li_20, li_30, li_31, li_32, li_40, li_42, li_45, li_48, li_57, li_58, li_59, li_60, li_64, li_74, li_75, li_81, li_97, li_122, li_124, li_143, li_151, li_159, li_167, li_175, li_200, li_255, li_648, li_650, li_823, li_900, li_999, li_1123, li_1298, li_1363, li_1379, li_2592, li_6571, li_9999, li_65536, li_65537, ng1, ng2, nI_add, pk_mul, remN, divN, inbI, ixN, leN, ltN, eqN, m1E, m1E', m2E, m12, m21, bsm, glE, b2iT, b2iF, if_pos, if_neg, ite_true, ite_false, not_true, not_false_iff, reduceCtorEq, f_X9_lapses_L61_64, c1]
        rfl
    · have e1 : l = 8 := by omega
      have e2 : r = 8 := by omega
      subst e1
      subst e2
      have e3 := clo_skip (x := x) (b := b) (k := k) (f := fun q => J (xn x b) h k (q / 9) (q % 9))
      simp (disch := omega) only [li_0, li_1, li_2, li_3, li_4, li_5, li_6, li_7, li_8, li_9, li_10, li_11, li_12, li_13, li_14, li_15, li_16, li_20, li_30, li_31, li_32, li_40, li_42, li_45, li_48, li_57, li_58, li_59, li_60, li_64, li_74, li_75, li_81, li_97, li_122, li_124, li_143, li_151, li_159, li_167, li_175, li_200, li_255, li_648, li_650, li_823, li_900, li_999, li_1123, li_1298, li_1363, li_1379, li_2592, li_6571, li_9999, li_65536, li_65537, ng1, ng2, nI_add, pk_mul, remN, divN, inbI, ixN, leN, ltN, eqN, m1E, m1E', m2E, m12, m21, bsm, glE, b2iT, b2iF, if_pos, if_neg, ite_true, ite_false, not_true, not_false_iff, reduceCtorEq, f_X9_lapses_L61_64]
      rw [show 9 * 8 + 8 = 80 from rfl, e3]
theorem r_clo (sm : MoT) (x : Nat → Int32) {b h k : Nat} (K : MoT → Option (Int32 × MoT)) (hb : b < 3) (hh : h < 4) (he : x (6571 * b) = nI h) (hk : k < 8) (hB : nB (xn x b)) : f_X9_lapses_L51_57 (nI b) (nI k) K 10000 0 (mo sm x) = K (mo sm (clo x b k 81 (fun q => J (xn x b) h k (q / 9) (q % 9)))) := by
  have e0 : x = clo x b k (9 * 0) (fun q => J (xn x b) h k (q / 9) (q % 9)) := by
    funext i
    unfold clo
    rw [if_neg (by omega)]
  rw [li_0]
  have main := lpc (L := fun n i t => f_X9_lapses_L51_57 (nI b) (nI k) K n i t) (K := K) 9 (fun l => mo sm (clo x b k (9 * l) (fun q => J (xn x b) h k (q / 9) (q % 9)))) (fuel := 10000) ?_ ?_ (by omega)
  · rw [← e0] at main
    exact main
  · intro n
    simp (disch := omega) only [li_0, li_1, li_2, li_3, li_4, li_5, li_6, li_7, li_8, li_9, li_10, li_11, li_12, li_13, li_14, li_15, li_16, li_20, li_30, li_31, li_32, li_40, li_42, li_45, li_48, li_57, li_58, li_59, li_60, li_64, li_74, li_75, li_81, li_97, li_122, li_124, li_143, li_151, li_159, li_167, li_175, li_200, li_255, li_648, li_650, li_823, li_900, li_999, li_1123, li_1298, li_1363, li_1379, li_2592, li_6571, li_9999, li_65536, li_65537, ng1, ng2, nI_add, pk_mul, remN, divN, inbI, ixN, leN, ltN, eqN, m1E, m1E', m2E, m12, m21, bsm, glE, b2iT, b2iF, if_pos, if_neg, ite_true, ite_false, not_true, not_false_iff, reduceCtorEq, f_X9_lapses_L51_57]
  · intro n l hl
    have c1 := r_clo1 sm x (fun s0_61 => f_X9_lapses_L51_57 (nI b) (nI k) K n (nI (l + 1)) s0_61) hb hh he hk hl hB
    rw [li_0] at c1
    simp (disch := omega) only [li_0, li_1, li_2, li_3, li_4, li_5, li_6, li_7, li_8, li_9, li_10, li_11, li_12, li_13, li_14, li_15, li_16, li_20, li_30, li_31, li_32, li_40, li_42, li_45, li_48, li_57, li_58, li_59, li_60, li_64, li_74, li_75, li_81, li_97, li_122, li_124, li_143, li_151, li_159, li_167, li_175, li_200, li_255, li_648, li_650, li_823, li_900, li_999, li_1123, li_1298, li_1363, li_1379, li_2592, li_6571, li_9999, li_65536, li_65537, ng1, ng2, nI_add, pk_mul, remN, divN, inbI, ixN, leN, ltN, eqN, m1E, m1E', m2E, m12, m21, bsm, glE, b2iT, b2iF, if_pos, if_neg, ite_true, ite_false, not_true, not_false_iff, reduceCtorEq, f_X9_lapses_L51_57, c1]
