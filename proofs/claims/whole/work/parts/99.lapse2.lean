theorem J_ck {nt nt' : Nat → Int32} {h k l r : Nat} (e : ∀ s v, s < 2 → v < 8 → nt ((s * 8 + k) * 8 + v) = nt' ((s * 8 + k) * 8 + v)) : J nt h k l r = J nt' h k l r := by
  have ht : ∀ s v, s < 2 → v < 8 → th nt s k v = th nt' s k v := fun s v h1 h2 => by unfold th; rw [e s v h1 h2]
  have hh : ∀ s, s < 2 → hsB nt s k = hsB nt' s k := fun s h1 => by unfold hsB; exact anyB_congr (fun v hv => by rw [e s v h1 hv])
  unfold J
  rw [hh 0 (by omega), hh 1 (by omega)]
  by_cases hl : l < 8
  · by_cases hr : r < 8
    · rw [if_pos hl, if_pos hl, if_pos hr, if_pos hr, ht 0 l (by omega) hl, ht 1 r (by omega) hr]
    · rw [if_pos hl, if_pos hl, if_neg hr, if_neg hr, ht 0 l (by omega) hl]
  · by_cases hr : r < 8
    · rw [if_neg hl, if_neg hl, if_pos hr, if_pos hr, ht 1 r (by omega) hr]
    · rw [if_neg hl, if_neg hl, if_neg hr, if_neg hr]
theorem J_zero {nt : Nat → Int32} {h k l r : Nat} (e : ∀ s v, s < 2 → v < 8 → nt ((s * 8 + k) * 8 + v) = nI 0) : J nt h k l r = nI 0 := by
  have ht : ∀ s v, s < 2 → v < 8 → th nt s k v = nI 0 := fun s v h1 h2 => by unfold th; rw [e s v h1 h2]; rfl
  unfold J
  by_cases hl : l < 8
  · by_cases hr : r < 8
    · rw [if_pos hl, if_pos hr, ht 0 l (by omega) hl]; exact Int32.zero_mul
    · rw [if_pos hl, if_neg hr, ht 0 l (by omega) hl, ite_self]
  · by_cases hr : r < 8
    · rw [if_neg hl, if_pos hr, ht 1 r (by omega) hr, ite_self]
    · rw [if_neg hl, if_neg hr]
theorem r_fl (sm : MoT) (x nt : Nat → Int32) {b k : Nat} (K : MoT → Option (Int32 × MoT)) (hb : b < 3) (hk : k < 8) (hB : nB (xn x b)) (hn : ∀ i, i < 128 → xn x b i = nt i) : f_X9_lapses_L107_47 (nI b) (nI k) K 10000 0 (mo sm x) = K (mo sm (flX x nt b k 2)) := by
  have e0 : x = flX x nt b k 0 := by
    funext i
    unfold flX
    rw [if_neg (by omega)]
  have hx : ∀ s i, i < 128 → xn (flX x nt b k s) b i = nt i := fun s i hi => by
    rw [← hn i hi]
    unfold xn flX
    rw [if_neg (by omega)]
  rw [li_0]
  have main := lpc (L := fun n i t => f_X9_lapses_L107_47 (nI b) (nI k) K n i t) (K := K) 2 (fun s => mo sm (flX x nt b k s)) (fuel := 10000) ?_ ?_ (by omega)
  · have main' : f_X9_lapses_L107_47 (nI b) (nI k) K 10000 (nI 0) (mo sm (flX x nt b k 0)) = K (mo sm (flX x nt b k 2)) := main
    rw [← e0] at main'
    exact main'
  · intro n
    simp (disch := omega) only [li_0, li_1, li_2, li_3, li_4, li_5, li_6, li_7, li_8, li_9, li_10, li_11, li_12, li_13, li_14, li_15, li_16, li_20, li_30, li_31, li_32, li_40, li_42, li_45, li_48, li_57, li_58, li_59, li_60, li_64, li_74, li_75, li_81, li_97, li_122, li_124, li_143, li_151, li_159, li_167, li_175, li_200, li_255, li_648, li_650, li_823, li_900, li_999, li_1123, li_1298, li_1363, li_1379, li_2592, li_6571, li_9999, li_65536, li_65537, ng1, ng2, nI_add, pk_mul, remN, divN, inbI, ixN, leN, ltN, eqN, m1E, m1E', m2E, m12, m21, bsm, glE, b2iT, b2iF, if_pos, if_neg, ite_true, ite_false, not_true, not_false_iff, reduceCtorEq, f_X9_lapses_L107_47]
  · intro n s hs
    have c1 : f_X9_has (mo sm (flX x nt b k s)) (nI b) (nI s) (nI k) = some (b2i (hsB nt s k)) := by
      rw [r_has sm _ hb hs hk (fun i hi => by rw [hx s i hi, ← hn i hi]; exact hB i hi), hsB_congr hs hk (hx s)]
    have c2 := r_more sm (flX x nt b k s) (b := b) (i := 1363 + 8 * s + k) (nI 1) hb (by omega)
    cases hh : hsB nt s k <;> rw [hh] at c1
    · have e1 : flX x nt b k (s + 1) = flX x nt b k s := by
        funext i
        unfold flX
        by_cases g : 6571 * b + 1363 ≤ i ∧ i < 6571 * b + 1363 + 8 * s ∧ (i - (6571 * b + 1363)) % 8 = k ∧ hsB nt ((i - (6571 * b + 1363)) / 8) k = true
        · rw [if_pos g, if_pos ⟨g.1, by omega, g.2.2.1, g.2.2.2⟩]
        · rw [if_neg g, if_neg (fun g2 => ?_)]
          have g3 : ¬ i < 6571 * b + 1363 + 8 * s := fun q => g ⟨g2.1, q, g2.2.2⟩
          have g4 : (i - (6571 * b + 1363)) / 8 = s := by omega
          have g5 := g2.2.2.2
          rw [g4, hh] at g5
          cases g5
      rw [e1]
      simp (disch := omega) only [li_0, li_1, li_2, li_3, li_4, li_5, li_6, li_7, li_8, li_9, li_10, li_11, li_12, li_13, li_14, li_15, li_16, li_20, li_30, li_31, li_32, li_40, li_42, li_45, li_48, li_57, li_58, li_59, li_60, li_64, li_74, li_75, li_81, li_97, li_122, li_124, li_143, li_151, li_159, li_167, li_175, li_200, li_255, li_648, li_650, li_823, li_900, li_999, li_1123, li_1298, li_1363, li_1379, li_2592, li_6571, li_9999, li_65536, li_65537, ng1, ng2, nI_add, pk_mul, remN, divN, inbI, ixN, leN, ltN, eqN, m1E, m1E', m2E, m12, m21, bsm, glE, b2iT, b2iF, if_pos, if_neg, ite_true, ite_false, not_true, not_false_iff, reduceCtorEq, f_X9_lapses_L107_47, c1]
    · have e1 : upd (flX x nt b k s) (6571 * b + (1363 + 8 * s + k)) (flX x nt b k s (6571 * b + (1363 + 8 * s + k)) + nI 1) = flX x nt b k (s + 1) := by
        funext i
        by_cases q : i = 6571 * b + (1363 + 8 * s + k)
        · rw [ue q, ← q]
          unfold flX
          have g4 : (i - (6571 * b + 1363)) / 8 = s := by omega
          rw [if_neg (fun g => by omega), if_pos ⟨by omega, by omega, by omega, by rw [g4]; exact hh⟩]
        · rw [un q]
          unfold flX
          by_cases g : 6571 * b + 1363 ≤ i ∧ i < 6571 * b + 1363 + 8 * s ∧ (i - (6571 * b + 1363)) % 8 = k ∧ hsB nt ((i - (6571 * b + 1363)) / 8) k = true
          · rw [if_pos g, if_pos ⟨g.1, by omega, g.2.2.1, g.2.2.2⟩]
          · rw [if_neg g, if_neg (fun g2 => g ⟨g2.1, by omega, g2.2.2⟩)]
      rw [e1] at c2
      simp (disch := omega) only [li_0, li_1, li_2, li_3, li_4, li_5, li_6, li_7, li_8, li_9, li_10, li_11, li_12, li_13, li_14, li_15, li_16, li_20, li_30, li_31, li_32, li_40, li_42, li_45, li_48, li_57, li_58, li_59, li_60, li_64, li_74, li_75, li_81, li_97, li_122, li_124, li_143, li_151, li_159, li_167, li_175, li_200, li_255, li_648, li_650, li_823, li_900, li_999, li_1123, li_1298, li_1363, li_1379, li_2592, li_6571, li_9999, li_65536, li_65537, ng1, ng2, nI_add, pk_mul, remN, divN, inbI, ixN, leN, ltN, eqN, m1E, m1E', m2E, m12, m21, bsm, glE, b2iT, b2iF, if_pos, if_neg, ite_true, ite_false, not_true, not_false_iff, reduceCtorEq, f_X9_lapses_L107_47, c1, c2]
theorem r_nz (sm : MoT) (x : Nat → Int32) {b k : Nat} (K : MoT → Option (Int32 × MoT)) (hb : b < 3) (hk : k < 8) : f_X9_lapses_L150_34 (nI b) (nI k) K 10000 0 (mo sm x) = K (mo sm (zX x b k 8)) := by
  have e0 : x = zX x b k 0 := by
    funext i
    unfold zX
    rw [if_neg (by omega)]
  rw [li_0]
  have main := lpc (L := fun n i t => f_X9_lapses_L150_34 (nI b) (nI k) K n i t) (K := K) 8 (fun v => mo sm (zX x b k v)) (fuel := 10000) ?_ ?_ (by omega)
  · have main' : f_X9_lapses_L150_34 (nI b) (nI k) K 10000 (nI 0) (mo sm (zX x b k 0)) = K (mo sm (zX x b k 8)) := main
    rw [← e0] at main'
    exact main'
  · intro n
    simp (disch := omega) only [li_0, li_1, li_2, li_3, li_4, li_5, li_6, li_7, li_8, li_9, li_10, li_11, li_12, li_13, li_14, li_15, li_16, li_20, li_30, li_31, li_32, li_40, li_42, li_45, li_48, li_57, li_58, li_59, li_60, li_64, li_74, li_75, li_81, li_97, li_122, li_124, li_143, li_151, li_159, li_167, li_175, li_200, li_255, li_648, li_650, li_823, li_900, li_999, li_1123, li_1298, li_1363, li_1379, li_2592, li_6571, li_9999, li_65536, li_65537, ng1, ng2, nI_add, pk_mul, remN, divN, inbI, ixN, leN, ltN, eqN, m1E, m1E', m2E, m12, m21, bsm, glE, b2iT, b2iF, if_pos, if_neg, ite_true, ite_false, not_true, not_false_iff, reduceCtorEq, f_X9_lapses_L150_34]
  · intro n v hv
    have c0 : f_X9_netAt (nI 0) (nI k) (nI v) = some (nI (15 + 8 * k + v)) := by
      unfold f_X9_netAt
      simp (disch := omega) only [li_0, li_1, li_2, li_3, li_4, li_5, li_6, li_7, li_8, li_9, li_10, li_11, li_12, li_13, li_14, li_15, li_16, li_20, li_30, li_31, li_32, li_40, li_42, li_45, li_48, li_57, li_58, li_59, li_60, li_64, li_74, li_75, li_81, li_97, li_122, li_124, li_143, li_151, li_159, li_167, li_175, li_200, li_255, li_648, li_650, li_823, li_900, li_999, li_1123, li_1298, li_1363, li_1379, li_2592, li_6571, li_9999, li_65536, li_65537, ng1, ng2, nI_add, pk_mul, remN, divN, inbI, ixN, leN, ltN, eqN, m1E, m1E', m2E, m12, m21, bsm, glE, b2iT, b2iF, if_pos, if_neg, ite_true, ite_false, not_true, not_false_iff, reduceCtorEq]
    have c1 : f_X9_netAt (nI 1) (nI k) (nI v) = some (nI (79 + 8 * k + v)) := by
      unfold f_X9_netAt
      simp (disch := omega) only [li_0, li_1, li_2, li_3, li_4, li_5, li_6, li_7, li_8, li_9, li_10, li_11, li_12, li_13, li_14, li_15, li_16, li_20, li_30, li_31, li_32, li_40, li_42, li_45, li_48, li_57, li_58, li_59, li_60, li_64, li_74, li_75, li_81, li_97, li_122, li_124, li_143, li_151, li_159, li_167, li_175, li_200, li_255, li_648, li_650, li_823, li_900, li_999, li_1123, li_1298, li_1363, li_1379, li_2592, li_6571, li_9999, li_65536, li_65537, ng1, ng2, nI_add, pk_mul, remN, divN, inbI, ixN, leN, ltN, eqN, m1E, m1E', m2E, m12, m21, bsm, glE, b2iT, b2iF, if_pos, if_neg, ite_true, ite_false, not_true, not_false_iff, reduceCtorEq]
    have c2 := r_set sm (zX x b k v) (b := b) (i := 15 + 8 * k + v) (nI 0) hb (by omega)
    have c3 := r_set sm (upd (zX x b k v) (6571 * b + (15 + 8 * k + v)) (nI 0)) (b := b) (i := 79 + 8 * k + v) (nI 0) hb (by omega)
    have e1 : upd (upd (zX x b k v) (6571 * b + (15 + 8 * k + v)) (nI 0)) (6571 * b + (79 + 8 * k + v)) (nI 0) = zX x b k (v + 1) := by
      funext i
      by_cases q : i = 6571 * b + (79 + 8 * k + v)
      · rw [ue q]
        unfold zX
        rw [if_pos (by omega)]
      · rw [un q]
        by_cases q2 : i = 6571 * b + (15 + 8 * k + v)
        · rw [ue q2]
          unfold zX
          rw [if_pos (by omega)]
        · rw [un q2]
          unfold zX
          by_cases g : (6571 * b + 15 + 8 * k ≤ i ∧ i < 6571 * b + 15 + 8 * k + v) ∨ (6571 * b + 79 + 8 * k ≤ i ∧ i < 6571 * b + 79 + 8 * k + v)
          · rw [if_pos g, if_pos (by omega)]
          · rw [if_neg g, if_neg (by omega)]
    rw [e1] at c3
    simp (disch := omega) only [li_0, li_1, li_2, li_3, li_4, li_5, li_6, li_7, li_8, li_9, li_10, li_11, li_12, li_13, li_14, li_15, li_16, li_20, li_30, li_31, li_32, li_40, li_42, li_45, li_48, li_57, li_58, li_59, li_60, li_64, li_74, li_75, li_81, li_97, li_122, li_124, li_143, li_151, li_159, li_167, li_175, li_200, li_255, li_648, li_650, li_823, li_900, li_999, li_1123, li_1298, li_1363, li_1379, li_2592, li_6571, li_9999, li_65536, li_65537, ng1, ng2, nI_add, pk_mul, remN, divN, inbI, ixN, leN, ltN, eqN, m1E, m1E', m2E, m12, m21, bsm, glE, b2iT, b2iF, if_pos, if_neg, ite_true, ite_false, not_true, not_false_iff, reduceCtorEq, f_X9_lapses_L150_34, c0, c1, c2, c3]
/-- the bank behind a key's lapse -/
def lapY (x : Nat → Int32) (b h k : Nat) : Nat → Int32 := zX (flX (clo x b k 81 (fun q => J (xn x b) h k (q / 9) (q % 9))) (xn x b) b k 2) b k 8
def lapX (x : Nat → Int32) (b h k : Nat) : Nat → Int32 := upd (upd (upd (lapY x b h k) (6571 * b + (143 + k)) (nI 0)) (6571 * b + (159 + k)) (lapY x b h k (6571 * b + (159 + k)) + nI 1)) (6571 * b + 8) (lapY x b h k (6571 * b + 8) + nI 1)
theorem lapX_n {x : Nat → Int32} {b h k i : Nat} (hk : k < 8) (hi : ¬ i = 6571 * b + 8 ∧ ¬ (6571 * b + 15 ≤ i ∧ i < 6571 * b + 143) ∧ ¬ i = 6571 * b + (143 + k) ∧ ¬ i = 6571 * b + (159 + k) ∧ ¬ (6571 * b + 175 ≤ i ∧ i < 6571 * b + 823) ∧ ¬ (6571 * b + 1363 ≤ i ∧ i < 6571 * b + 1379)) : lapX x b h k i = x i := by
  unfold lapX lapY zX flX clo
  rw [un (by omega), un (by omega), un (by omega), if_neg (by omega), if_neg (by omega), if_neg (by omega)]
theorem lapX_8 {x : Nat → Int32} {b h k : Nat} (hk : k < 8) : lapX x b h k (6571 * b + 8) = x (6571 * b + 8) + nI 1 := by
  unfold lapX lapY zX flX clo
  rw [us, if_neg (by omega), if_neg (by omega), if_neg (by omega)]
theorem lapX_143 {x : Nat → Int32} {b h k : Nat} : lapX x b h k (6571 * b + (143 + k)) = nI 0 := by
  unfold lapX
  rw [un (by omega), un (by omega), us]
theorem lapX_159 {x : Nat → Int32} {b h k : Nat} (hk : k < 8) : lapX x b h k (6571 * b + (159 + k)) = x (6571 * b + (159 + k)) + nI 1 := by
  unfold lapX lapY zX flX clo
  rw [un (by omega), us, if_neg (by omega), if_neg (by omega), if_neg (by omega)]
theorem lapX_nt {x : Nat → Int32} {b h k : Nat} (hk : k < 8) : ∀ i, i < 128 → xn (lapX x b h k) b i = zN (xn x b) k 2 i := by
  intro i hi
  unfold lapX lapY
  show upd _ _ _ (6571 * b + 15 + i) = _
  rw [un (by omega), un (by omega), un (by omega)]
  unfold zX zN
  by_cases g : i < 64 * 2 ∧ i / 8 % 8 = k
  · rw [if_pos g, if_pos (by omega)]
  · rw [if_neg g, if_neg (by omega)]
    unfold flX clo xn
    rw [if_neg (by omega), if_neg (by omega)]
theorem lapX_fl {x : Nat → Int32} {b h k : Nat} (hk : k < 8) : ∀ i, i < 16 → lapX x b h k (6571 * b + (1363 + i)) = if i % 8 = k ∧ hsB (xn x b) (i / 8) k = true then x (6571 * b + (1363 + i)) + nI 1 else x (6571 * b + (1363 + i)) := by
  intro i hi
  unfold lapX lapY zX
  rw [un (by omega), un (by omega), un (by omega), if_neg (by omega)]
  unfold flX
  have e1 : 6571 * b + (1363 + i) - (6571 * b + 1363) = i := by omega
  rw [e1]
  have e2 : clo x b k 81 (fun q => J (xn x b) h k (q / 9) (q % 9)) (6571 * b + (1363 + i)) = x (6571 * b + (1363 + i)) := by
    unfold clo
    rw [if_neg (by omega)]
  rw [e2]
  by_cases g : i % 8 = k ∧ hsB (xn x b) (i / 8) k = true
  · rw [if_pos g, if_pos ⟨by omega, by omega, g⟩]
  · rw [if_neg g, if_neg (fun g2 => g g2.2.2)]
theorem lapX_cl {x : Nat → Int32} {b h k k' l r : Nat} (hk : k < 8) (hk' : k' < 8) (hl : l < 9) (hr : r < 9) : lapX x b h k (6571 * b + (175 + (81 * k' + 9 * l + r))) = if k' = k ∧ (l < 8 ∨ r < 8) then x (6571 * b + (175 + (81 * k' + 9 * l + r))) + J (xn x b) h k l r else x (6571 * b + (175 + (81 * k' + 9 * l + r))) := by
  unfold lapX lapY zX flX clo
  rw [un (by omega), un (by omega), un (by omega), if_neg (by omega), if_neg (by omega)]
  by_cases g : k' = k ∧ (l < 8 ∨ r < 8)
  · rw [if_pos g, if_pos (by omega)]
    have e1 : 6571 * b + (175 + (81 * k' + 9 * l + r)) - (6571 * b + 175 + 81 * k) = 9 * l + r := by omega
    show _ + J (xn x b) h k ((6571 * b + (175 + (81 * k' + 9 * l + r)) - (6571 * b + 175 + 81 * k)) / 9) ((6571 * b + (175 + (81 * k' + 9 * l + r)) - (6571 * b + 175 + 81 * k)) % 9) = _
    rw [e1, show (9 * l + r) / 9 = l by omega, show (9 * l + r) % 9 = r by omega]
  · rw [if_neg g, if_neg (by omega)]
def lapB (bk : BkT) (k : Nat) : BkT := Bk_w_lapsed (Bk_w_lapses (Bk_w_latest (Bk_w_board bk (Bd_w_turns (Bd_w_nets (Bk_board bk) (zN (Bd_nets (Bk_board bk)) k 2)) (zT (Bd_turns (Bk_board bk)) (Bd_nets (Bk_board bk)) k 2))) (upd (Bk_latest bk) k m2)) (upd (Bk_lapses bk) k (Bk_lapses bk k + nI 1))) (Bk_lapsed bk + nI 1)
theorem zN_0 {nt : Nat → Int32} {s k v : Nat} (hs : s < 2) (hk : k < 8) (hv : v < 8) : zN nt k 2 ((s * 8 + k) * 8 + v) = nI 0 := by
  unfold zN
  rw [if_pos (by omega)]
theorem zN_1 {nt : Nat → Int32} {s k k' v : Nat} (hk : k < 8) (hv : v < 8) (hne : k' ≠ k) (hk' : k' < 8) : zN nt k 2 ((s * 8 + k') * 8 + v) = nt ((s * 8 + k') * 8 + v) := by
  unfold zN
  rw [if_neg (by omega)]
theorem lap_rel {b h kc vc T B k : Nat} {bk : BkT} {wd : Nat → Int64} {x : Nat → Int32} (hk : k < 8) (hBd : RBd b h T (Bk_board bk) x) (hR : RBk b kc vc T B bk wd x) : RBd b h T (Bk_board (lapB bk k)) (lapX x b h k) ∧ RBk b kc vc T B (lapB bk k) wd (lapX x b h k) := by
  obtain ⟨_, h2, h3, h4, h5, h6, h7, h8, h9⟩ := hR
  obtain ⟨a1, a2, a3, a4, a5, a6, a7⟩ := hBd
  have hB' : RBd b h T (Bk_board (lapB bk k)) (lapX x b h k) := by
    refine ⟨?_, a2, by rw [lapX_n hk (by omega)]; exact a3, a4, ?_, RL_fr a6 (fun i hi => lapX_n hk (by omega)), ?_⟩
    · intro i hi
      show zN (Bd_nets (Bk_board bk)) k 2 i = _
      rw [lapX_nt hk i hi]
      unfold zN
      rw [a1 i hi]
    · intro i hi
      show zT (Bd_turns (Bk_board bk)) (Bd_nets (Bk_board bk)) k 2 i = _
      rw [lapX_fl hk i hi, ← a5 i hi, ← hsB_congr (by omega) hk a1]
      unfold zT
      by_cases g : i % 8 = k ∧ hsB (Bd_nets (Bk_board bk)) (i / 8) k = true
      · rw [if_pos g, if_pos ⟨by omega, g⟩]
      · rw [if_neg g, if_neg (fun g2 => g g2.2)]
    · intro k' l r g1 g2 g3
      show Bd_sums (Bk_board bk) _ = J (zN (Bd_nets (Bk_board bk)) k 2) h k' l r + _
      rw [a7 k' l r g1 g2 g3, lapX_cl hk g1 g2 g3]
      by_cases e : k' = k
      · subst e
        rw [J_zero (nt := zN (Bd_nets (Bk_board bk)) k' 2) (fun s v q1 q2 => zN_0 q1 hk q2), z2, ← J_congr hk a1]
        by_cases q : l < 8 ∨ r < 8
        · rw [if_pos ⟨rfl, q⟩, Int32.add_comm]
        · rw [if_neg (fun g => q g.2)]
          have e1 : J (Bd_nets (Bk_board bk)) h k' l r = nI 0 := by
            unfold J
            rw [if_neg (by omega), if_neg (by omega)]
          rw [e1, z2]
      · rw [if_neg (fun g => e g.1), J_ck (fun s v q1 q2 => zN_1 hk q2 e g1)]
  refine ⟨hB', ⟨h, hB'⟩, h2.fr (lapX_n hk (by omega)) (lapX_n hk (by omega)), h3.fr (fun i q1 q2 => lapX_n hk (by omega)), ?_, ?_, ?_, h7.fr (lapX_n hk (by omega)) (fun i q1 q2 => lapX_n hk (by omega)), h8.fr (Nat.le_refl _) (fun i q1 q2 => lapX_n hk (by omega)), ?_⟩
  · intro k' hk'
    show (_ ∧ upd (Bk_latest bk) k m2 k' = m2 ∧ ∀ s v, s < 2 → v < 8 → zN (Bd_nets (Bk_board bk)) k 2 ((s * 8 + k') * 8 + v) = nI 0) ∨ ∃ t, _ ∧ _ ∧ _ ∧ upd (Bk_latest bk) k m2 k' = nI t
    by_cases e : k' = k
    · subst e
      exact Or.inl ⟨lapX_143, us, fun s v q1 q2 => zN_0 q1 hk q2⟩
    · rw [un e, lapX_n hk (by omega), lapX_n hk (by omega)]
      rcases h4 k' hk' with ⟨q1, q2, q3⟩ | q
      · exact Or.inl ⟨q1, q2, fun s v p1 p2 => by rw [zN_1 hk p2 e hk']; exact q3 s v p1 p2⟩
      · exact Or.inr q
  · obtain ⟨⟨kp, c1, c2, c3⟩, ⟨lt, d1, d2, d3⟩, ⟨ck, e1, e2, e3⟩, f4, f5, f6⟩ := h5
    refine ⟨⟨kp, c1, c2, by rw [lapX_n hk (by omega)]; exact c3⟩, ⟨lt, d1, d2, by rw [lapX_n hk (by omega)]; exact d3⟩, ⟨ck, e1, e2, by rw [lapX_n hk (by omega)]; exact e3⟩, by rw [lapX_n hk (by omega)]; exact f4, ?_, ?_⟩
    · show Bk_lapsed bk + nI 1 = _
      rw [lapX_8 hk, f5]
    · intro k' hk'
      show upd (Bk_lapses bk) k (Bk_lapses bk k + nI 1) k' = _
      by_cases e : k' = k
      · subst e
        rw [us, lapX_159 hk, f6 k' hk]
      · rw [un e, lapX_n hk (by omega), f6 k' hk']
  · refine ⟨?_, ?_⟩
    · intro s k' v q1 q2 q3 q4
      have q4 : zN (Bd_nets (Bk_board bk)) k 2 ((s * 8 + k') * 8 + v) ≠ nI 0 := q4
      by_cases e : k' = k
      · subst e
        exact absurd (zN_0 q1 hk q3) q4
      · rw [zN_1 hk q3 e q2] at q4
        exact h6.1 s k' v q1 q2 q3 q4
    · intro k' l r q1 q2 q3 q4
      rw [lapX_cl hk q1 q2 q3] at q4
      by_cases e : k' = k ∧ (l < 8 ∨ r < 8)
      · rw [if_pos e] at q4
        by_cases g : x (6571 * b + (175 + (81 * k' + 9 * l + r))) = nI 0
        · rw [g, z2] at q4
          rw [← e.1, ← J_congr q1 a1] at q4
          exact J_kn q1 (fun s v p1 p2 p3 => h6.1 s k' v p1 q1 p2 p3) q4
        · exact h6.2 k' l r q1 q2 q3 g
      · rw [if_neg e] at q4
        exact h6.2 k' l r q1 q2 q3 q4
  · intro i hi
    show _ ≤ (zN (Bd_nets (Bk_board bk)) k 2 i).toInt ∧ (zN (Bd_nets (Bk_board bk)) k 2 i).toInt ≤ _
    unfold zN
    by_cases g : i < 64 * 2 ∧ i / 8 % 8 = k
    · rw [if_pos g]
      have e0 : (nI 0).toInt = 0 := rfl
      rw [e0]
      omega
    · rw [if_neg g]
      exact h9 i hi
