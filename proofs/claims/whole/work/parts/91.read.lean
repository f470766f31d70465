/-! reading on both sides: nets, what is there, what is joined -/
theorem bmI {z : Int} (h1 : -2147483648 ≤ z) (h2 : z < 2147483648) : z.bmod (2 ^ 32) = z := Int.bmod_eq_of_le (by omega) (by omega)
theorem addI {a b : Int32} (h1 : -2147483648 ≤ a.toInt + b.toInt) (h2 : a.toInt + b.toInt < 2147483648) : (a + b).toInt = a.toInt + b.toInt := by rw [Int32.toInt_add, bmI h1 h2]
theorem subI {a b : Int32} (h1 : -2147483648 ≤ a.toInt - b.toInt) (h2 : a.toInt - b.toInt < 2147483648) : (a - b).toInt = a.toInt - b.toInt := by rw [Int32.toInt_sub, bmI h1 h2]
theorem leI (a b : Int32) : (a ≤ b) = (a.toInt ≤ b.toInt) := propext Int32.le_iff_toInt_le
theorem ltI (a b : Int32) : (a < b) = (a.toInt < b.toInt) := propext Int32.lt_iff_toInt_lt
theorem eqI (a b : Int32) : (a = b) = (a.toInt = b.toInt) := propext Int32.toInt_inj.symm
theorem tI {n : Nat} (h : n < 2147483648) : (nI n).toInt = (n : Int) := nI_toInt h
def mo (sm : MoT) (x : Nat → Int32) : MoT := Mo_w_x sm x
theorem mo_x (sm : MoT) (x : Nat → Int32) : Mo_x (mo sm x) = x := rfl
theorem mo_mo (sm : MoT) (x y : Nat → Int32) : Mo_w_x (mo sm x) y = mo sm y := rfl
theorem mo_eq (sm : MoT) : mo sm (Mo_x sm) = sm := rfl
theorem r_get (sm : MoT) (x : Nat → Int32) {b i : Nat} (hb : b < 3) (hi : i < 6571) : f_X9_get (mo sm x) (nI b) (nI i) = some (x (6571 * b + i)) := by
  unfold f_X9_get
  simp (disch := omega) only [li_0, li_1, li_2, li_3, li_4, li_5, li_6, li_7, li_8, li_9, li_10, li_11, li_12, li_13, li_14, li_15, li_16, li_20, li_30, li_31, li_32, li_40, li_42, li_45, li_48, li_57, li_58, li_59, li_60, li_64, li_74, li_75, li_81, li_97, li_122, li_124, li_143, li_151, li_159, li_167, li_175, li_200, li_255, li_648, li_650, li_823, li_900, li_999, li_1123, li_1298, li_1363, li_1379, li_2592, li_6571, li_9999, li_65536, li_65537, ng1, ng2, nI_add, pk_mul, remN, divN, inbI, ixN, leN, ltN, eqN, m1E, m1E', m2E, m12, m21, bsm, glE, b2iT, b2iF, if_pos, if_neg, ite_true, ite_false, not_true, not_false_iff, reduceCtorEq, mo_x]
theorem r_set (sm : MoT) (x : Nat → Int32) {b i : Nat} (v : Int32) (hb : b < 3) (hi : i < 6571) : f_X9_set (mo sm x) (nI b) (nI i) v = some (mo sm (upd x (6571 * b + i) v)) := by
  unfold f_X9_set
  simp (disch := omega) only [li_0, li_1, li_2, li_3, li_4, li_5, li_6, li_7, li_8, li_9, li_10, li_11, li_12, li_13, li_14, li_15, li_16, li_20, li_30, li_31, li_32, li_40, li_42, li_45, li_48, li_57, li_58, li_59, li_60, li_64, li_74, li_75, li_81, li_97, li_122, li_124, li_143, li_151, li_159, li_167, li_175, li_200, li_255, li_648, li_650, li_823, li_900, li_999, li_1123, li_1298, li_1363, li_1379, li_2592, li_6571, li_9999, li_65536, li_65537, ng1, ng2, nI_add, pk_mul, remN, divN, inbI, ixN, leN, ltN, eqN, m1E, m1E', m2E, m12, m21, bsm, glE, b2iT, b2iF, if_pos, if_neg, ite_true, ite_false, not_true, not_false_iff, reduceCtorEq, mo_x]
  rfl
theorem r_more (sm : MoT) (x : Nat → Int32) {b i : Nat} (v : Int32) (hb : b < 3) (hi : i < 6571) : f_X9_more (mo sm x) (nI b) (nI i) v = some (mo sm (upd x (6571 * b + i) (x (6571 * b + i) + v))) := by
  unfold f_X9_more
  simp (disch := omega) only [li_0, li_1, li_2, li_3, li_4, li_5, li_6, li_7, li_8, li_9, li_10, li_11, li_12, li_13, li_14, li_15, li_16, li_20, li_30, li_31, li_32, li_40, li_42, li_45, li_48, li_57, li_58, li_59, li_60, li_64, li_74, li_75, li_81, li_97, li_122, li_124, li_143, li_151, li_159, li_167, li_175, li_200, li_255, li_648, li_650, li_823, li_900, li_999, li_1123, li_1298, li_1363, li_1379, li_2592, li_6571, li_9999, li_65536, li_65537, ng1, ng2, nI_add, pk_mul, remN, divN, inbI, ixN, leN, ltN, eqN, m1E, m1E', m2E, m12, m21, bsm, glE, b2iT, b2iF, if_pos, if_neg, ite_true, ite_false, not_true, not_false_iff, reduceCtorEq, mo_x]
  rfl
def pp (v : Int32) : Int32 := if v ≤ nI 0 then nI 0 else v
theorem ppE (v : Int32) : (if nI 0 ≤ v then v else nI 0) = pp v := by
  unfold pp
  by_cases h : v ≤ nI 0
  · rw [if_pos h]
    by_cases h2 : nI 0 ≤ v
    · rw [if_pos h2]; rw [leI] at h h2; rw [eqI]; omega
    · rw [if_neg h2]
  · rw [if_neg h, if_pos]
    rw [leI] at h ⊢
    omega
theorem pp_nn (v : Int32) : 0 ≤ (pp v).toInt ∧ (v.toInt ≤ 0 → (pp v).toInt = 0) ∧ (0 < v.toInt → pp v = v) := by
  unfold pp
  have h0 : (nI 0).toInt = 0 := rfl
  by_cases h : v ≤ nI 0
  · rw [if_pos h]; rw [leI, h0] at h; exact ⟨by omega, fun _ => h0, fun q => by omega⟩
  · rw [if_neg h]; rw [leI, h0] at h; exact ⟨by omega, fun q => by omega, fun _ => rfl⟩
theorem pp_pos {v : Int32} (h : ¬ v ≤ nI 0) : pp v = v := by unfold pp; rw [if_neg h]
theorem pp_neg {v : Int32} (h : v ≤ nI 0) : pp v = nI 0 := by unfold pp; rw [if_pos h]
theorem pp_z {v : Int32} : pp v = nI 0 ↔ v ≤ nI 0 := by
  constructor
  · intro h
    by_cases q : v ≤ nI 0
    · exact q
    · rw [pp_pos q] at h; exact absurd (by rw [h]; exact Int32.le_refl _) q
  · exact pp_neg
def th (nt : Nat → Int32) (sd k v : Nat) : Int32 := pp (nt ((sd * 8 + k) * 8 + v))
def hsB (nt : Nat → Int32) (sd k : Nat) : Bool := anyB (fun v => !decide (nt ((sd * 8 + k) * 8 + v) ≤ nI 0)) 8
theorem hsB_f (nt : Nat → Int32) (sd k : Nat) : hsB nt sd k = false ↔ ∀ v, v < 8 → nt ((sd * 8 + k) * 8 + v) ≤ nI 0 := by
  unfold hsB
  rw [anyB_f]
  simp only [Bool.not_eq_false', decide_eq_true_eq]
theorem hsB_th (nt : Nat → Int32) (sd k : Nat) : hsB nt sd k = false ↔ ∀ v, v < 8 → th nt sd k v = nI 0 := by
  rw [hsB_f]
  unfold th
  simp only [pp_z]
def thA (nt : Nat → Int32) (sd k : Nat) : Int32 := itr (fun v a => a + th nt sd k v) (nI 0) 8
theorem th_congr {nt nt' : Nat → Int32} {sd k : Nat} (hs : sd < 2) (hk : k < 8) (h : ∀ i, i < 128 → nt i = nt' i) : ∀ v, v < 8 → th nt sd k v = th nt' sd k v := fun v hv => by
  unfold th
  rw [h _ (by omega)]
theorem hsB_congr {nt nt' : Nat → Int32} {sd k : Nat} (hs : sd < 2) (hk : k < 8) (h : ∀ i, i < 128 → nt i = nt' i) : hsB nt sd k = hsB nt' sd k := by
  unfold hsB
  exact anyB_congr (fun v hv => by rw [h _ (by omega)])
theorem thA_inv (nt : Nat → Int32) (sd k : Nat) (h : ∀ v, v < 8 → (nt ((sd * 8 + k) * 8 + v)).toInt ≤ 100000000) : ∀ n : Nat, n ≤ 8 →
    0 ≤ (itr (fun v a => a + th nt sd k v) (nI 0) n).toInt ∧ (itr (fun v a => a + th nt sd k v) (nI 0) n).toInt ≤ n * 100000000 ∧ ((itr (fun v a => a + th nt sd k v) (nI 0) n).toInt = 0 ↔ ∀ v, v < n → th nt sd k v = nI 0)
  | 0, _ => ⟨Int.le_refl _, by show (0 : Int) ≤ _; omega, fun _ v hv => absurd hv (Nat.not_lt_zero _), fun _ => rfl⟩
  | n + 1, hn => by
    obtain ⟨h1, h2, h3⟩ := thA_inv nt sd k h n (by omega)
    have hb := h n (by omega)
    have hp := pp_nn (nt ((sd * 8 + k) * 8 + n))
    have hq : (th nt sd k n).toInt ≤ 100000000 := by
      unfold th
      by_cases q : (nt ((sd * 8 + k) * 8 + n)).toInt ≤ 0
      · rw [hp.2.1 q]; omega
      · rw [hp.2.2 (by omega)]; exact hb
    have hq0 : 0 ≤ (th nt sd k n).toInt := hp.1
    have e : (itr (fun v a => a + th nt sd k v) (nI 0) (n + 1)).toInt = (itr (fun v a => a + th nt sd k v) (nI 0) n).toInt + (th nt sd k n).toInt := by
      show (itr (fun v a => a + th nt sd k v) (nI 0) n + th nt sd k n).toInt = _
      exact addI (by omega) (by omega)
    rw [e]
    refine ⟨by omega, by omega, ?_⟩
    constructor
    · intro hz v hv
      by_cases q : v = n
      · subst q; rw [eqI]; show _ = (0 : Int); omega
      · exact h3.mp (by omega) v (by omega)
    · intro hz
      have a1 := h3.mpr (fun v hv => hz v (by omega))
      have a2 : (th nt sd k n).toInt = 0 := by rw [hz n (by omega)]; rfl
      omega
theorem thA_le (nt : Nat → Int32) (sd k : Nat) (h : ∀ v, v < 8 → (nt ((sd * 8 + k) * 8 + v)).toInt ≤ 100000000) : (thA nt sd k ≤ nI 0) = (hsB nt sd k = false) := by
  obtain ⟨h1, h2, h3⟩ := thA_inv nt sd k h 8 (by omega)
  have e0 : (nI 0).toInt = 0 := rfl
  rw [leI, e0, hsB_th, ← h3]
  unfold thA
  refine propext ⟨fun q => by omega, fun q => by omega⟩
theorem c_np (sd k v : Nat) : f_X0_netPlace (nI sd) (nI k) (nI v) = some (nI ((sd * 8 + k) * 8 + v)) := by
  unfold f_X0_netPlace
  simp (disch := omega) only [li_0, li_1, li_2, li_3, li_4, li_5, li_6, li_7, li_8, li_9, li_10, li_11, li_12, li_13, li_14, li_15, li_16, li_20, li_30, li_31, li_32, li_40, li_42, li_45, li_48, li_57, li_58, li_59, li_60, li_64, li_74, li_75, li_81, li_97, li_122, li_124, li_143, li_151, li_159, li_167, li_175, li_200, li_255, li_648, li_650, li_823, li_900, li_999, li_1123, li_1298, li_1363, li_1379, li_2592, li_6571, li_9999, li_65536, li_65537, ng1, ng2, nI_add, pk_mul, remN, divN, inbI, ixN, leN, ltN, eqN, m1E, m1E', m2E, m12, m21, bsm, glE, b2iT, b2iF, if_pos, if_neg, ite_true, ite_false, not_true, not_false_iff, reduceCtorEq]
theorem c_no (s : BdT) {sd k v : Nat} (hs : sd < 2) (hk : k < 8) (hv : v < 8) : f_X0_netOf s (nI sd) (nI k) (nI v) = some (Bd_nets s ((sd * 8 + k) * 8 + v)) := by
  unfold f_X0_netOf
  simp (disch := omega) only [li_0, li_1, li_2, li_3, li_4, li_5, li_6, li_7, li_8, li_9, li_10, li_11, li_12, li_13, li_14, li_15, li_16, li_20, li_30, li_31, li_32, li_40, li_42, li_45, li_48, li_57, li_58, li_59, li_60, li_64, li_74, li_75, li_81, li_97, li_122, li_124, li_143, li_151, li_159, li_167, li_175, li_200, li_255, li_648, li_650, li_823, li_900, li_999, li_1123, li_1298, li_1363, li_1379, li_2592, li_6571, li_9999, li_65536, li_65537, ng1, ng2, nI_add, pk_mul, remN, divN, inbI, ixN, leN, ltN, eqN, m1E, m1E', m2E, m12, m21, bsm, glE, b2iT, b2iF, if_pos, if_neg, ite_true, ite_false, not_true, not_false_iff, reduceCtorEq, c_np]
theorem c_th (s : BdT) {sd k v : Nat} (hs : sd < 2) (hk : k < 8) (hv : v < 8) : f_X0_thereOf s (nI sd) (nI k) (nI v) = some (th (Bd_nets s) sd k v) := by
  unfold f_X0_thereOf
  simp (disch := omega) only [li_0, li_1, li_2, li_3, li_4, li_5, li_6, li_7, li_8, li_9, li_10, li_11, li_12, li_13, li_14, li_15, li_16, li_20, li_30, li_31, li_32, li_40, li_42, li_45, li_48, li_57, li_58, li_59, li_60, li_64, li_74, li_75, li_81, li_97, li_122, li_124, li_143, li_151, li_159, li_167, li_175, li_200, li_255, li_648, li_650, li_823, li_900, li_999, li_1123, li_1298, li_1363, li_1379, li_2592, li_6571, li_9999, li_65536, li_65537, ng1, ng2, nI_add, pk_mul, remN, divN, inbI, ixN, leN, ltN, eqN, m1E, m1E', m2E, m12, m21, bsm, glE, b2iT, b2iF, if_pos, if_neg, ite_true, ite_false, not_true, not_false_iff, reduceCtorEq, c_np]
  unfold th pp
  by_cases h : Bd_nets s ((sd * 8 + k) * 8 + v) ≤ nI 0
  · simp only [if_pos h]
  · simp only [if_neg h]
theorem c_has (s : BdT) {sd k : Nat} (hs : sd < 2) (hk : k < 8) : f_X0_has s (nI sd) (nI k) = some (b2i (hsB (Bd_nets s) sd k)) := by
  unfold f_X0_has
  simp only [glE, li_0, li_1, li_2, li_3, li_4, li_5, li_6, li_7, li_8, li_9, li_10, li_11, li_12, li_13, li_14, li_15, li_16, li_20, li_30, li_31, li_32, li_40, li_42, li_45, li_48, li_57, li_58, li_59, li_60, li_64, li_74, li_75, li_81, li_97, li_122, li_124, li_143, li_151, li_159, li_167, li_175, li_200, li_255, li_648, li_650, li_823, li_900, li_999, li_1123, li_1298, li_1363, li_1379, li_2592, li_6571, li_9999, li_65536, li_65537, ng1, ng2]
  refine lp (L := fun n x (_ : Unit) => f_X0_has_L2_4 s (nI sd) (nI k) (fun _ => some (nI 1)) (fun _ => some (nI 0)) n x) 8 (fun i _ => ∀ v, v < i → Bd_nets s ((sd * 8 + k) * 8 + v) ≤ nI 0) (fun o => o = some (b2i (hsB (Bd_nets s) sd k))) ?_ ?_ 10000 0 () (by omega) (by omega) (fun v hv => absurd hv (Nat.not_lt_zero _))
  · intro n _ h
    rw [(hsB_f _ _ _).mpr h]
    simp (disch := omega) only [li_0, li_1, li_2, li_3, li_4, li_5, li_6, li_7, li_8, li_9, li_10, li_11, li_12, li_13, li_14, li_15, li_16, li_20, li_30, li_31, li_32, li_40, li_42, li_45, li_48, li_57, li_58, li_59, li_60, li_64, li_74, li_75, li_81, li_97, li_122, li_124, li_143, li_151, li_159, li_167, li_175, li_200, li_255, li_648, li_650, li_823, li_900, li_999, li_1123, li_1298, li_1363, li_1379, li_2592, li_6571, li_9999, li_65536, li_65537, ng1, ng2, nI_add, pk_mul, remN, divN, inbI, ixN, leN, ltN, eqN, m1E, m1E', m2E, m12, m21, bsm, glE, b2iT, b2iF, if_pos, if_neg, ite_true, ite_false, not_true, not_false_iff, reduceCtorEq, f_X0_has_L2_4]
  · intro n i _ hi h
    by_cases q : Bd_nets s ((sd * 8 + k) * 8 + i) ≤ nI 0
    · refine Or.inr ⟨(), fun v hv => ?_, ?_⟩
      · by_cases e : v = i
        · subst e; exact q
        · exact h v (by omega)
      · simp (disch := omega) only [li_0, li_1, li_2, li_3, li_4, li_5, li_6, li_7, li_8, li_9, li_10, li_11, li_12, li_13, li_14, li_15, li_16, li_20, li_30, li_31, li_32, li_40, li_42, li_45, li_48, li_57, li_58, li_59, li_60, li_64, li_74, li_75, li_81, li_97, li_122, li_124, li_143, li_151, li_159, li_167, li_175, li_200, li_255, li_648, li_650, li_823, li_900, li_999, li_1123, li_1298, li_1363, li_1379, li_2592, li_6571, li_9999, li_65536, li_65537, ng1, ng2, nI_add, pk_mul, remN, divN, inbI, ixN, leN, ltN, eqN, m1E, m1E', m2E, m12, m21, bsm, glE, b2iT, b2iF, if_pos, if_neg, ite_true, ite_false, not_true, not_false_iff, reduceCtorEq, f_X0_has_L2_4, c_np, q]
    · refine Or.inl ?_
      have e : hsB (Bd_nets s) sd k = true := by
        cases e : hsB (Bd_nets s) sd k with
        | true => rfl
        | false => exact absurd ((hsB_f _ _ _).mp e i hi) q
      rw [e]
      simp (disch := omega) only [li_0, li_1, li_2, li_3, li_4, li_5, li_6, li_7, li_8, li_9, li_10, li_11, li_12, li_13, li_14, li_15, li_16, li_20, li_30, li_31, li_32, li_40, li_42, li_45, li_48, li_57, li_58, li_59, li_60, li_64, li_74, li_75, li_81, li_97, li_122, li_124, li_143, li_151, li_159, li_167, li_175, li_200, li_255, li_648, li_650, li_823, li_900, li_999, li_1123, li_1298, li_1363, li_1379, li_2592, li_6571, li_9999, li_65536, li_65537, ng1, ng2, nI_add, pk_mul, remN, divN, inbI, ixN, leN, ltN, eqN, m1E, m1E', m2E, m12, m21, bsm, glE, b2iT, b2iF, if_pos, if_neg, ite_true, ite_false, not_true, not_false_iff, reduceCtorEq, f_X0_has_L2_4, c_np, q]
theorem c_all (s : BdT) {sd k : Nat} (hs : sd < 2) (hk : k < 8) : f_X0_thereOfAll s (nI sd) (nI k) = some (thA (Bd_nets s) sd k) := by
  unfold f_X0_thereOfAll
  simp only [glE, li_0, li_1, li_2, li_3, li_4, li_5, li_6, li_7, li_8, li_9, li_10, li_11, li_12, li_13, li_14, li_15, li_16, li_20, li_30, li_31, li_32, li_40, li_42, li_45, li_48, li_57, li_58, li_59, li_60, li_64, li_74, li_75, li_81, li_97, li_122, li_124, li_143, li_151, li_159, li_167, li_175, li_200, li_255, li_648, li_650, li_823, li_900, li_999, li_1123, li_1298, li_1363, li_1379, li_2592, li_6571, li_9999, li_65536, li_65537, ng1, ng2]
  refine lpi (L := fun n x a => f_X0_thereOfAll_L5_5 s (nI sd) (nI k) (fun x => some x) n a x) (K := fun x => some x) 8 (fun v a => a + th (Bd_nets s) sd k v) ?_ ?_ (nI 0) (by omega)
  · intro n a
    simp (disch := omega) only [li_0, li_1, li_2, li_3, li_4, li_5, li_6, li_7, li_8, li_9, li_10, li_11, li_12, li_13, li_14, li_15, li_16, li_20, li_30, li_31, li_32, li_40, li_42, li_45, li_48, li_57, li_58, li_59, li_60, li_64, li_74, li_75, li_81, li_97, li_122, li_124, li_143, li_151, li_159, li_167, li_175, li_200, li_255, li_648, li_650, li_823, li_900, li_999, li_1123, li_1298, li_1363, li_1379, li_2592, li_6571, li_9999, li_65536, li_65537, ng1, ng2, nI_add, pk_mul, remN, divN, inbI, ixN, leN, ltN, eqN, m1E, m1E', m2E, m12, m21, bsm, glE, b2iT, b2iF, if_pos, if_neg, ite_true, ite_false, not_true, not_false_iff, reduceCtorEq, f_X0_thereOfAll_L5_5]
  · intro n i a hi
    simp (disch := omega) only [li_0, li_1, li_2, li_3, li_4, li_5, li_6, li_7, li_8, li_9, li_10, li_11, li_12, li_13, li_14, li_15, li_16, li_20, li_30, li_31, li_32, li_40, li_42, li_45, li_48, li_57, li_58, li_59, li_60, li_64, li_74, li_75, li_81, li_97, li_122, li_124, li_143, li_151, li_159, li_167, li_175, li_200, li_255, li_648, li_650, li_823, li_900, li_999, li_1123, li_1298, li_1363, li_1379, li_2592, li_6571, li_9999, li_65536, li_65537, ng1, ng2, nI_add, pk_mul, remN, divN, inbI, ixN, leN, ltN, eqN, m1E, m1E', m2E, m12, m21, bsm, glE, b2iT, b2iF, if_pos, if_neg, ite_true, ite_false, not_true, not_false_iff, reduceCtorEq, f_X0_thereOfAll_L5_5, c_th]
def xn (x : Nat → Int32) (b : Nat) : Nat → Int32 := fun i => x (6571 * b + 15 + i)
theorem r_th (sm : MoT) (x : Nat → Int32) {b sd k v : Nat} (hb : b < 3) (hs : sd < 2) (hk : k < 8) (hv : v < 8) : f_X9_thereOf (mo sm x) (nI b) (nI sd) (nI k) (nI v) = some (th (xn x b) sd k v) := by
  unfold f_X9_thereOf f_X9_netAt
  simp (disch := omega) only [li_0, li_1, li_2, li_3, li_4, li_5, li_6, li_7, li_8, li_9, li_10, li_11, li_12, li_13, li_14, li_15, li_16, li_20, li_30, li_31, li_32, li_40, li_42, li_45, li_48, li_57, li_58, li_59, li_60, li_64, li_74, li_75, li_81, li_97, li_122, li_124, li_143, li_151, li_159, li_167, li_175, li_200, li_255, li_648, li_650, li_823, li_900, li_999, li_1123, li_1298, li_1363, li_1379, li_2592, li_6571, li_9999, li_65536, li_65537, ng1, ng2, nI_add, pk_mul, remN, divN, inbI, ixN, leN, ltN, eqN, m1E, m1E', m2E, m12, m21, bsm, glE, b2iT, b2iF, if_pos, if_neg, ite_true, ite_false, not_true, not_false_iff, reduceCtorEq, r_get]
  unfold th xn
  rw [← ppE, show 6571 * b + (15 + 64 * sd + 8 * k + v) = 6571 * b + 15 + ((sd * 8 + k) * 8 + v) by omega]
  by_cases h : nI 0 ≤ x (6571 * b + 15 + ((sd * 8 + k) * 8 + v))
  · simp only [if_pos h]
  · simp only [if_neg h]
theorem r_all (sm : MoT) (x : Nat → Int32) {b sd k : Nat} (hb : b < 3) (hs : sd < 2) (hk : k < 8) : f_X9_thereAll (mo sm x) (nI b) (nI sd) (nI k) = some (thA (xn x b) sd k) := by
  unfold f_X9_thereAll
  simp only [glE, li_0, li_1, li_2, li_3, li_4, li_5, li_6, li_7, li_8, li_9, li_10, li_11, li_12, li_13, li_14, li_15, li_16, li_20, li_30, li_31, li_32, li_40, li_42, li_45, li_48, li_57, li_58, li_59, li_60, li_64, li_74, li_75, li_81, li_97, li_122, li_124, li_143, li_151, li_159, li_167, li_175, li_200, li_255, li_648, li_650, li_823, li_900, li_999, li_1123, li_1298, li_1363, li_1379, li_2592, li_6571, li_9999, li_65536, li_65537, ng1, ng2]
  refine lpi (L := fun n y a => f_X9_thereAll_L6_5 (mo sm x) (nI b) (nI sd) (nI k) (fun x => some x) n a y) (K := fun x => some x) 8 (fun v a => a + th (xn x b) sd k v) ?_ ?_ (nI 0) (by omega)
  · intro n a
    simp (disch := omega) only [li_0, li_1, li_2, li_3, li_4, li_5, li_6, li_7, li_8, li_9, li_10, li_11, li_12, li_13, li_14, li_15, li_16, li_20, li_30, li_31, li_32, li_40, li_42, li_45, li_48, li_57, li_58, li_59, li_60, li_64, li_74, li_75, li_81, li_97, li_122, li_124, li_143, li_151, li_159, li_167, li_175, li_200, li_255, li_648, li_650, li_823, li_900, li_999, li_1123, li_1298, li_1363, li_1379, li_2592, li_6571, li_9999, li_65536, li_65537, ng1, ng2, nI_add, pk_mul, remN, divN, inbI, ixN, leN, ltN, eqN, m1E, m1E', m2E, m12, m21, bsm, glE, b2iT, b2iF, if_pos, if_neg, ite_true, ite_false, not_true, not_false_iff, reduceCtorEq, f_X9_thereAll_L6_5]
  · intro n i a hi
    simp (disch := omega) only [li_0, li_1, li_2, li_3, li_4, li_5, li_6, li_7, li_8, li_9, li_10, li_11, li_12, li_13, li_14, li_15, li_16, li_20, li_30, li_31, li_32, li_40, li_42, li_45, li_48, li_57, li_58, li_59, li_60, li_64, li_74, li_75, li_81, li_97, li_122, li_124, li_143, li_151, li_159, li_167, li_175, li_200, li_255, li_648, li_650, li_823, li_900, li_999, li_1123, li_1298, li_1363, li_1379, li_2592, li_6571, li_9999, li_65536, li_65537, ng1, ng2, nI_add, pk_mul, remN, divN, inbI, ixN, leN, ltN, eqN, m1E, m1E', m2E, m12, m21, bsm, glE, b2iT, b2iF, if_pos, if_neg, ite_true, ite_false, not_true, not_false_iff, reduceCtorEq, f_X9_thereAll_L6_5, r_th]
/-- nets that are not too large -/
def nB (nt : Nat → Int32) : Prop := ∀ i, i < 128 → -100000000 ≤ (nt i).toInt ∧ (nt i).toInt ≤ 100000000
theorem r_has (sm : MoT) (x : Nat → Int32) {b sd k : Nat} (hb : b < 3) (hs : sd < 2) (hk : k < 8) (hB : nB (xn x b)) : f_X9_has (mo sm x) (nI b) (nI sd) (nI k) = some (b2i (hsB (xn x b) sd k)) := by
  have e := thA_le (xn x b) sd k (fun v hv => (hB _ (by omega)).2)
  unfold f_X9_has
  simp (disch := omega) only [li_0, li_1, li_2, li_3, li_4, li_5, li_6, li_7, li_8, li_9, li_10, li_11, li_12, li_13, li_14, li_15, li_16, li_20, li_30, li_31, li_32, li_40, li_42, li_45, li_48, li_57, li_58, li_59, li_60, li_64, li_74, li_75, li_81, li_97, li_122, li_124, li_143, li_151, li_159, li_167, li_175, li_200, li_255, li_648, li_650, li_823, li_900, li_999, li_1123, li_1298, li_1363, li_1379, li_2592, li_6571, li_9999, li_65536, li_65537, ng1, ng2, nI_add, pk_mul, remN, divN, inbI, ixN, leN, ltN, eqN, m1E, m1E', m2E, m12, m21, bsm, glE, b2iT, b2iF, if_pos, if_neg, ite_true, ite_false, not_true, not_false_iff, reduceCtorEq, r_all, e]
  cases hsB (xn x b) sd k
  · simp (disch := omega) only [li_0, li_1, li_2, li_3, li_4, li_5, li_6, li_7, li_8, li_9, li_10, li_11, li_12, li_13, li_14, li_15, li_16, li_20, li_30, li_31, li_32, li_40, li_42, li_45, li_48, li_57, li_58, li_59, li_60, li_64, li_74, li_75, li_81, li_97, li_122, li_124, li_143, li_151, li_159, li_167, li_175, li_200, li_255, li_648, li_650, li_823, li_900, li_999, li_1123, li_1298, li_1363, li_1379, li_2592, li_6571, li_9999, li_65536, li_65537, ng1, ng2, nI_add, pk_mul, remN, divN, inbI, ixN, leN, ltN, eqN, m1E, m1E', m2E, m12, m21, bsm, glE, b2iT, b2iF, if_pos, if_neg, ite_true, ite_false, not_true, not_false_iff, reduceCtorEq]
  · simp (disch := omega) only [li_0, li_1, li_2, li_3, li_4, li_5, li_6, li_7, li_8, li_9, li_10, li_11, li_12, li_13, li_14, li_15, li_16, li_20, li_30, li_31, li_32, li_40, li_42, li_45, li_48, li_57, li_58, li_59, li_60, li_64, li_74, li_75, li_81, li_97, li_122, li_124, li_143, li_151, li_159, li_167, li_175, li_200, li_255, li_648, li_650, li_823, li_900, li_999, li_1123, li_1298, li_1363, li_1379, li_2592, li_6571, li_9999, li_65536, li_65537, ng1, ng2, nI_add, pk_mul, remN, divN, inbI, ixN, leN, ltN, eqN, m1E, m1E', m2E, m12, m21, bsm, glE, b2iT, b2iF, if_pos, if_neg, ite_true, ite_false, not_true, not_false_iff, reduceCtorEq]
def outB (h sd : Nat) : Bool := h.testBit sd
theorem c_out : ∀ h, h < 4 → ∀ sd, sd < 2 → f_X0_hasOuter (nI h) (nI sd) = some (b2i (outB h sd)) := by decide
theorem r_out : ∀ h, h < 4 → ∀ sd, sd < 2 → f_X9_isOuter (nI h) (nI sd) = some (b2i (outB h sd)) := by decide
theorem oneSub : ∀ sd, sd < 2 → nI 1 - nI sd = nI (1 - sd) := by decide
/-- what a join of all that is there has of a row -/
def J (nt : Nat → Int32) (h k l r : Nat) : Int32 :=
  if l < 8 then (if r < 8 then th nt 0 k l * th nt 1 k r else (if (outB h 0 && !hsB nt 1 k) = true then th nt 0 k l else nI 0))
  else (if r < 8 then (if (outB h 1 && !hsB nt 0 k) = true then th nt 1 k r else nI 0) else nI 0)
theorem J_congr {nt nt' : Nat → Int32} {h k l r : Nat} (hk : k < 8) (e : ∀ i, i < 128 → nt i = nt' i) : J nt h k l r = J nt' h k l r := by
  unfold J
  rw [hsB_congr (by omega) hk e, hsB_congr (by omega) hk e]
  by_cases hl : l < 8
  · by_cases hr : r < 8
    · rw [if_pos hl, if_pos hl, if_pos hr, if_pos hr, th_congr (by omega) hk e l hl, th_congr (by omega) hk e r hr]
    · rw [if_pos hl, if_pos hl, if_neg hr, if_neg hr, th_congr (by omega) hk e l hl]
  · by_cases hr : r < 8
    · rw [if_neg hl, if_neg hl, if_pos hr, if_pos hr, th_congr (by omega) hk e r hr]
    · rw [if_neg hl, if_neg hl, if_neg hr, if_neg hr]
/-- a row's end: a value's number, or none -/
def vN (l : Nat) : Int32 := if l = 8 then m1 else nI l
theorem r_jn (sm : MoT) (x : Nat → Int32) {b h k l r : Nat} (hb : b < 3) (hh : h < 4) (he : x (6571 * b) = nI h) (hk : k < 8) (hl : l < 9) (hr : r < 9) (hlr : l < 8 ∨ r < 8) (hB : nB (xn x b)) : f_X9_joined (mo sm x) (nI b) (nI k) (nI l) (nI r) = some (J (xn x b) h k l r) := by
  have he' : x (6571 * b + 0) = nI h := he
  have o0 := r_out h hh 0 (by omega)
  have o1 := r_out h hh 1 (by omega)
  have s0 := oneSub 0 (by omega)
  have s1 := oneSub 1 (by omega)
  have t1 := r_has sm x hb (show 1 < 2 by omega) hk hB
  have t0 := r_has sm x hb (show 0 < 2 by omega) hk hB
  unfold f_X9_joined J
  by_cases q : l < 8
  · by_cases q2 : r < 8
    · simp (disch := omega) only [li_0, li_1, li_2, li_3, li_4, li_5, li_6, li_7, li_8, li_9, li_10, li_11, li_12, li_13, li_14, li_15, li_16, li_20, li_30, li_31, li_32, li_40, li_42, li_45, li_48, li_57, li_58, li_59, li_60, li_64, li_74, li_75, li_81, li_97, li_122, li_124, li_143, li_151, li_159, li_167, li_175, li_200, li_255, li_648, li_650, li_823, li_900, li_999, li_1123, li_1298, li_1363, li_1379, li_2592, li_6571, li_9999, li_65536, li_65537, ng1, ng2, nI_add, pk_mul, remN, divN, inbI, ixN, leN, ltN, eqN, m1E, m1E', m2E, m12, m21, bsm, glE, b2iT, b2iF, if_pos, if_neg, ite_true, ite_false, not_true, not_false_iff, reduceCtorEq, r_th]
    · simp (disch := omega) only [li_0, li_1, li_2, li_3, li_4, li_5, li_6, li_7, li_8, li_9, li_10, li_11, li_12, li_13, li_14, li_15, li_16, li_20, li_30, li_31, li_32, li_40, li_42, li_45, li_48, li_57, li_58, li_59, li_60, li_64, li_74, li_75, li_81, li_97, li_122, li_124, li_143, li_151, li_159, li_167, li_175, li_200, li_255, li_648, li_650, li_823, li_900, li_999, li_1123, li_1298, li_1363, li_1379, li_2592, li_6571, li_9999, li_65536, li_65537, ng1, ng2, nI_add, pk_mul, remN, divN, inbI, ixN, leN, ltN, eqN, m1E, m1E', m2E, m12, m21, bsm, glE, b2iT, b2iF, if_pos, if_neg, ite_true, ite_false, not_true, not_false_iff, reduceCtorEq, r_get, he', o0]
      cases outB h 0
      · simp (disch := omega) only [li_0, li_1, li_2, li_3, li_4, li_5, li_6, li_7, li_8, li_9, li_10, li_11, li_12, li_13, li_14, li_15, li_16, li_20, li_30, li_31, li_32, li_40, li_42, li_45, li_48, li_57, li_58, li_59, li_60, li_64, li_74, li_75, li_81, li_97, li_122, li_124, li_143, li_151, li_159, li_167, li_175, li_200, li_255, li_648, li_650, li_823, li_900, li_999, li_1123, li_1298, li_1363, li_1379, li_2592, li_6571, li_9999, li_65536, li_65537, ng1, ng2, nI_add, pk_mul, remN, divN, inbI, ixN, leN, ltN, eqN, m1E, m1E', m2E, m12, m21, bsm, glE, b2iT, b2iF, if_pos, if_neg, ite_true, ite_false, not_true, not_false_iff, reduceCtorEq, Bool.false_and]
        try simp
      · simp (disch := omega) only [li_0, li_1, li_2, li_3, li_4, li_5, li_6, li_7, li_8, li_9, li_10, li_11, li_12, li_13, li_14, li_15, li_16, li_20, li_30, li_31, li_32, li_40, li_42, li_45, li_48, li_57, li_58, li_59, li_60, li_64, li_74, li_75, li_81, li_97, li_122, li_124, li_143, li_151, li_159, li_167, li_175, li_200, li_255, li_648, li_650, li_823, li_900, li_999, li_1123, li_1298, li_1363, li_1379, li_2592, li_6571, li_9999, li_65536, li_65537, ng1, ng2, nI_add, pk_mul, remN, divN, inbI, ixN, leN, ltN, eqN, m1E, m1E', m2E, m12, m21, bsm, glE, b2iT, b2iF, if_pos, if_neg, ite_true, ite_false, not_true, not_false_iff, reduceCtorEq, s0, t1]
        cases hsB (xn x b) 1 k
        · simp (disch := omega) only [li_0, li_1, li_2, li_3, li_4, li_5, li_6, li_7, li_8, li_9, li_10, li_11, li_12, li_13, li_14, li_15, li_16, li_20, li_30, li_31, li_32, li_40, li_42, li_45, li_48, li_57, li_58, li_59, li_60, li_64, li_74, li_75, li_81, li_97, li_122, li_124, li_143, li_151, li_159, li_167, li_175, li_200, li_255, li_648, li_650, li_823, li_900, li_999, li_1123, li_1298, li_1363, li_1379, li_2592, li_6571, li_9999, li_65536, li_65537, ng1, ng2, nI_add, pk_mul, remN, divN, inbI, ixN, leN, ltN, eqN, m1E, m1E', m2E, m12, m21, bsm, glE, b2iT, b2iF, if_pos, if_neg, ite_true, ite_false, not_true, not_false_iff, reduceCtorEq, r_th]
          try simp
        · simp (disch := omega) only [li_0, li_1, li_2, li_3, li_4, li_5, li_6, li_7, li_8, li_9, li_10, li_11, li_12, li_13, li_14, li_15, li_16, li_20, li_30, li_31, li_32, li_40, li_42, li_45, li_48, li_57, li_58, li_59, li_60, li_64, li_74, li_75, li_81, li_97, li_122, li_124, li_143, li_151, li_159, li_167, li_175, li_200, li_255, li_648, li_650, li_823, li_900, li_999, li_1123, li_1298, li_1363, li_1379, li_2592, li_6571, li_9999, li_65536, li_65537, ng1, ng2, nI_add, pk_mul, remN, divN, inbI, ixN, leN, ltN, eqN, m1E, m1E', m2E, m12, m21, bsm, glE, b2iT, b2iF, if_pos, if_neg, ite_true, ite_false, not_true, not_false_iff, reduceCtorEq]
          try simp
  · have q2 : r < 8 := by omega
    simp (disch := omega) only [li_0, li_1, li_2, li_3, li_4, li_5, li_6, li_7, li_8, li_9, li_10, li_11, li_12, li_13, li_14, li_15, li_16, li_20, li_30, li_31, li_32, li_40, li_42, li_45, li_48, li_57, li_58, li_59, li_60, li_64, li_74, li_75, li_81, li_97, li_122, li_124, li_143, li_151, li_159, li_167, li_175, li_200, li_255, li_648, li_650, li_823, li_900, li_999, li_1123, li_1298, li_1363, li_1379, li_2592, li_6571, li_9999, li_65536, li_65537, ng1, ng2, nI_add, pk_mul, remN, divN, inbI, ixN, leN, ltN, eqN, m1E, m1E', m2E, m12, m21, bsm, glE, b2iT, b2iF, if_pos, if_neg, ite_true, ite_false, not_true, not_false_iff, reduceCtorEq, r_get, he', o1]
    cases outB h 1
    · simp (disch := omega) only [li_0, li_1, li_2, li_3, li_4, li_5, li_6, li_7, li_8, li_9, li_10, li_11, li_12, li_13, li_14, li_15, li_16, li_20, li_30, li_31, li_32, li_40, li_42, li_45, li_48, li_57, li_58, li_59, li_60, li_64, li_74, li_75, li_81, li_97, li_122, li_124, li_143, li_151, li_159, li_167, li_175, li_200, li_255, li_648, li_650, li_823, li_900, li_999, li_1123, li_1298, li_1363, li_1379, li_2592, li_6571, li_9999, li_65536, li_65537, ng1, ng2, nI_add, pk_mul, remN, divN, inbI, ixN, leN, ltN, eqN, m1E, m1E', m2E, m12, m21, bsm, glE, b2iT, b2iF, if_pos, if_neg, ite_true, ite_false, not_true, not_false_iff, reduceCtorEq, Bool.false_and]
      try simp
    · simp (disch := omega) only [li_0, li_1, li_2, li_3, li_4, li_5, li_6, li_7, li_8, li_9, li_10, li_11, li_12, li_13, li_14, li_15, li_16, li_20, li_30, li_31, li_32, li_40, li_42, li_45, li_48, li_57, li_58, li_59, li_60, li_64, li_74, li_75, li_81, li_97, li_122, li_124, li_143, li_151, li_159, li_167, li_175, li_200, li_255, li_648, li_650, li_823, li_900, li_999, li_1123, li_1298, li_1363, li_1379, li_2592, li_6571, li_9999, li_65536, li_65537, ng1, ng2, nI_add, pk_mul, remN, divN, inbI, ixN, leN, ltN, eqN, m1E, m1E', m2E, m12, m21, bsm, glE, b2iT, b2iF, if_pos, if_neg, ite_true, ite_false, not_true, not_false_iff, reduceCtorEq, s1, t0]
      cases hsB (xn x b) 0 k
      · simp (disch := omega) only [li_0, li_1, li_2, li_3, li_4, li_5, li_6, li_7, li_8, li_9, li_10, li_11, li_12, li_13, li_14, li_15, li_16, li_20, li_30, li_31, li_32, li_40, li_42, li_45, li_48, li_57, li_58, li_59, li_60, li_64, li_74, li_75, li_81, li_97, li_122, li_124, li_143, li_151, li_159, li_167, li_175, li_200, li_255, li_648, li_650, li_823, li_900, li_999, li_1123, li_1298, li_1363, li_1379, li_2592, li_6571, li_9999, li_65536, li_65537, ng1, ng2, nI_add, pk_mul, remN, divN, inbI, ixN, leN, ltN, eqN, m1E, m1E', m2E, m12, m21, bsm, glE, b2iT, b2iF, if_pos, if_neg, ite_true, ite_false, not_true, not_false_iff, reduceCtorEq, r_th]
        try simp
      · simp (disch := omega) only [li_0, li_1, li_2, li_3, li_4, li_5, li_6, li_7, li_8, li_9, li_10, li_11, li_12, li_13, li_14, li_15, li_16, li_20, li_30, li_31, li_32, li_40, li_42, li_45, li_48, li_57, li_58, li_59, li_60, li_64, li_74, li_75, li_81, li_97, li_122, li_124, li_143, li_151, li_159, li_167, li_175, li_200, li_255, li_648, li_650, li_823, li_900, li_999, li_1123, li_1298, li_1363, li_1379, li_2592, li_6571, li_9999, li_65536, li_65537, ng1, ng2, nI_add, pk_mul, remN, divN, inbI, ixN, leN, ltN, eqN, m1E, m1E', m2E, m12, m21, bsm, glE, b2iT, b2iF, if_pos, if_neg, ite_true, ite_false, not_true, not_false_iff, reduceCtorEq]
        try simp
theorem c_ou (s : BdT) {h sd k v : Nat} (hh : h < 4) (he : Bd_how s = nI h) (hs : sd < 2) (hk : k < 8) (hv : v < 8) : f_X0_outerOf s (nI sd) (nI k) (nI v) = some (if (outB h sd && !hsB (Bd_nets s) (1 - sd) k) = true then th (Bd_nets s) sd k v else nI 0) := by
  have o0 := c_out h hh sd hs
  have s0 := oneSub sd hs
  have t1 := c_has s (show 1 - sd < 2 by omega) hk
  unfold f_X0_outerOf
  simp (disch := omega) only [li_0, li_1, li_2, li_3, li_4, li_5, li_6, li_7, li_8, li_9, li_10, li_11, li_12, li_13, li_14, li_15, li_16, li_20, li_30, li_31, li_32, li_40, li_42, li_45, li_48, li_57, li_58, li_59, li_60, li_64, li_74, li_75, li_81, li_97, li_122, li_124, li_143, li_151, li_159, li_167, li_175, li_200, li_255, li_648, li_650, li_823, li_900, li_999, li_1123, li_1298, li_1363, li_1379, li_2592, li_6571, li_9999, li_65536, li_65537, ng1, ng2, nI_add, pk_mul, remN, divN, inbI, ixN, leN, ltN, eqN, m1E, m1E', m2E, m12, m21, bsm, glE, b2iT, b2iF, if_pos, if_neg, ite_true, ite_false, not_true, not_false_iff, reduceCtorEq, he, o0, s0]
  cases outB h sd
  · simp (disch := omega) only [li_0, li_1, li_2, li_3, li_4, li_5, li_6, li_7, li_8, li_9, li_10, li_11, li_12, li_13, li_14, li_15, li_16, li_20, li_30, li_31, li_32, li_40, li_42, li_45, li_48, li_57, li_58, li_59, li_60, li_64, li_74, li_75, li_81, li_97, li_122, li_124, li_143, li_151, li_159, li_167, li_175, li_200, li_255, li_648, li_650, li_823, li_900, li_999, li_1123, li_1298, li_1363, li_1379, li_2592, li_6571, li_9999, li_65536, li_65537, ng1, ng2, nI_add, pk_mul, remN, divN, inbI, ixN, leN, ltN, eqN, m1E, m1E', m2E, m12, m21, bsm, glE, b2iT, b2iF, if_pos, if_neg, ite_true, ite_false, not_true, not_false_iff, reduceCtorEq, Bool.false_and]
    try simp
  · simp (disch := omega) only [li_0, li_1, li_2, li_3, li_4, li_5, li_6, li_7, li_8, li_9, li_10, li_11, li_12, li_13, li_14, li_15, li_16, li_20, li_30, li_31, li_32, li_40, li_42, li_45, li_48, li_57, li_58, li_59, li_60, li_64, li_74, li_75, li_81, li_97, li_122, li_124, li_143, li_151, li_159, li_167, li_175, li_200, li_255, li_648, li_650, li_823, li_900, li_999, li_1123, li_1298, li_1363, li_1379, li_2592, li_6571, li_9999, li_65536, li_65537, ng1, ng2, nI_add, pk_mul, remN, divN, inbI, ixN, leN, ltN, eqN, m1E, m1E', m2E, m12, m21, bsm, glE, b2iT, b2iF, if_pos, if_neg, ite_true, ite_false, not_true, not_false_iff, reduceCtorEq, t1]
    cases hsB (Bd_nets s) (1 - sd) k
    · simp (disch := omega) only [li_0, li_1, li_2, li_3, li_4, li_5, li_6, li_7, li_8, li_9, li_10, li_11, li_12, li_13, li_14, li_15, li_16, li_20, li_30, li_31, li_32, li_40, li_42, li_45, li_48, li_57, li_58, li_59, li_60, li_64, li_74, li_75, li_81, li_97, li_122, li_124, li_143, li_151, li_159, li_167, li_175, li_200, li_255, li_648, li_650, li_823, li_900, li_999, li_1123, li_1298, li_1363, li_1379, li_2592, li_6571, li_9999, li_65536, li_65537, ng1, ng2, nI_add, pk_mul, remN, divN, inbI, ixN, leN, ltN, eqN, m1E, m1E', m2E, m12, m21, bsm, glE, b2iT, b2iF, if_pos, if_neg, ite_true, ite_false, not_true, not_false_iff, reduceCtorEq, c_th]
      try simp
    · simp (disch := omega) only [li_0, li_1, li_2, li_3, li_4, li_5, li_6, li_7, li_8, li_9, li_10, li_11, li_12, li_13, li_14, li_15, li_16, li_20, li_30, li_31, li_32, li_40, li_42, li_45, li_48, li_57, li_58, li_59, li_60, li_64, li_74, li_75, li_81, li_97, li_122, li_124, li_143, li_151, li_159, li_167, li_175, li_200, li_255, li_648, li_650, li_823, li_900, li_999, li_1123, li_1298, li_1363, li_1379, li_2592, li_6571, li_9999, li_65536, li_65537, ng1, ng2, nI_add, pk_mul, remN, divN, inbI, ixN, leN, ltN, eqN, m1E, m1E', m2E, m12, m21, bsm, glE, b2iT, b2iF, if_pos, if_neg, ite_true, ite_false, not_true, not_false_iff, reduceCtorEq]
      try simp
theorem c_jn (s : BdT) {h k l r : Nat} (hh : h < 4) (he : Bd_how s = nI h) (hk : k < 8) (hl : l < 9) (hr : r < 9) (hlr : l < 8 ∨ r < 8) : f_X0_joined s (nI k) (vN l) (vN r) = some (J (Bd_nets s) h k l r) := by
  unfold f_X0_joined J vN
  by_cases q : l < 8
  · by_cases q2 : r < 8
    · simp (disch := omega) only [li_0, li_1, li_2, li_3, li_4, li_5, li_6, li_7, li_8, li_9, li_10, li_11, li_12, li_13, li_14, li_15, li_16, li_20, li_30, li_31, li_32, li_40, li_42, li_45, li_48, li_57, li_58, li_59, li_60, li_64, li_74, li_75, li_81, li_97, li_122, li_124, li_143, li_151, li_159, li_167, li_175, li_200, li_255, li_648, li_650, li_823, li_900, li_999, li_1123, li_1298, li_1363, li_1379, li_2592, li_6571, li_9999, li_65536, li_65537, ng1, ng2, nI_add, pk_mul, remN, divN, inbI, ixN, leN, ltN, eqN, m1E, m1E', m2E, m12, m21, bsm, glE, b2iT, b2iF, if_pos, if_neg, ite_true, ite_false, not_true, not_false_iff, reduceCtorEq, c_th]
    · have e : r = 8 := by omega
      subst e
      have := c_ou s hh he (show 0 < 2 by omega) hk q
      simp (disch := omega) only [li_0, li_1, li_2, li_3, li_4, li_5, li_6, li_7, li_8, li_9, li_10, li_11, li_12, li_13, li_14, li_15, li_16, li_20, li_30, li_31, li_32, li_40, li_42, li_45, li_48, li_57, li_58, li_59, li_60, li_64, li_74, li_75, li_81, li_97, li_122, li_124, li_143, li_151, li_159, li_167, li_175, li_200, li_255, li_648, li_650, li_823, li_900, li_999, li_1123, li_1298, li_1363, li_1379, li_2592, li_6571, li_9999, li_65536, li_65537, ng1, ng2, nI_add, pk_mul, remN, divN, inbI, ixN, leN, ltN, eqN, m1E, m1E', m2E, m12, m21, bsm, glE, b2iT, b2iF, if_pos, if_neg, ite_true, ite_false, not_true, not_false_iff, reduceCtorEq, this]
  · have e : l = 8 := by omega
    subst e
    have q2 : r < 8 := by omega
    have := c_ou s hh he (show 1 < 2 by omega) hk q2
    simp (disch := omega) only [li_0, li_1, li_2, li_3, li_4, li_5, li_6, li_7, li_8, li_9, li_10, li_11, li_12, li_13, li_14, li_15, li_16, li_20, li_30, li_31, li_32, li_40, li_42, li_45, li_48, li_57, li_58, li_59, li_60, li_64, li_74, li_75, li_81, li_97, li_122, li_124, li_143, li_151, li_159, li_167, li_175, li_200, li_255, li_648, li_650, li_823, li_900, li_999, li_1123, li_1298, li_1363, li_1379, li_2592, li_6571, li_9999, li_65536, li_65537, ng1, ng2, nI_add, pk_mul, remN, divN, inbI, ixN, leN, ltN, eqN, m1E, m1E', m2E, m12, m21, bsm, glE, b2iT, b2iF, if_pos, if_neg, ite_true, ite_false, not_true, not_false_iff, reduceCtorEq, this]
theorem c_pl {k l r : Nat} (hk : k < 8) (hl : l < 9) (hr : r < 9) : f_X8_placeOf (nI k) (vN l) (vN r) = some (nI (81 * k + 9 * l + r)) := by
  unfold f_X8_placeOf vN
  by_cases q : l = 8
  · by_cases q2 : r = 8
    · subst q; subst q2; simp (disch := omega) only [li_0, li_1, li_2, li_3, li_4, li_5, li_6, li_7, li_8, li_9, li_10, li_11, li_12, li_13, li_14, li_15, li_16, li_20, li_30, li_31, li_32, li_40, li_42, li_45, li_48, li_57, li_58, li_59, li_60, li_64, li_74, li_75, li_81, li_97, li_122, li_124, li_143, li_151, li_159, li_167, li_175, li_200, li_255, li_648, li_650, li_823, li_900, li_999, li_1123, li_1298, li_1363, li_1379, li_2592, li_6571, li_9999, li_65536, li_65537, ng1, ng2, nI_add, pk_mul, remN, divN, inbI, ixN, leN, ltN, eqN, m1E, m1E', m2E, m12, m21, bsm, glE, b2iT, b2iF, if_pos, if_neg, ite_true, ite_false, not_true, not_false_iff, reduceCtorEq]; congr 2; omega
    · subst q; simp (disch := omega) only [li_0, li_1, li_2, li_3, li_4, li_5, li_6, li_7, li_8, li_9, li_10, li_11, li_12, li_13, li_14, li_15, li_16, li_20, li_30, li_31, li_32, li_40, li_42, li_45, li_48, li_57, li_58, li_59, li_60, li_64, li_74, li_75, li_81, li_97, li_122, li_124, li_143, li_151, li_159, li_167, li_175, li_200, li_255, li_648, li_650, li_823, li_900, li_999, li_1123, li_1298, li_1363, li_1379, li_2592, li_6571, li_9999, li_65536, li_65537, ng1, ng2, nI_add, pk_mul, remN, divN, inbI, ixN, leN, ltN, eqN, m1E, m1E', m2E, m12, m21, bsm, glE, b2iT, b2iF, if_pos, if_neg, ite_true, ite_false, not_true, not_false_iff, reduceCtorEq]; congr 2; omega
  · by_cases q2 : r = 8
    · subst q2; simp (disch := omega) only [li_0, li_1, li_2, li_3, li_4, li_5, li_6, li_7, li_8, li_9, li_10, li_11, li_12, li_13, li_14, li_15, li_16, li_20, li_30, li_31, li_32, li_40, li_42, li_45, li_48, li_57, li_58, li_59, li_60, li_64, li_74, li_75, li_81, li_97, li_122, li_124, li_143, li_151, li_159, li_167, li_175, li_200, li_255, li_648, li_650, li_823, li_900, li_999, li_1123, li_1298, li_1363, li_1379, li_2592, li_6571, li_9999, li_65536, li_65537, ng1, ng2, nI_add, pk_mul, remN, divN, inbI, ixN, leN, ltN, eqN, m1E, m1E', m2E, m12, m21, bsm, glE, b2iT, b2iF, if_pos, if_neg, ite_true, ite_false, not_true, not_false_iff, reduceCtorEq]; congr 2; omega
    · simp (disch := omega) only [li_0, li_1, li_2, li_3, li_4, li_5, li_6, li_7, li_8, li_9, li_10, li_11, li_12, li_13, li_14, li_15, li_16, li_20, li_30, li_31, li_32, li_40, li_42, li_45, li_48, li_57, li_58, li_59, li_60, li_64, li_74, li_75, li_81, li_97, li_122, li_124, li_143, li_151, li_159, li_167, li_175, li_200, li_255, li_648, li_650, li_823, li_900, li_999, li_1123, li_1298, li_1363, li_1379, li_2592, li_6571, li_9999, li_65536, li_65537, ng1, ng2, nI_add, pk_mul, remN, divN, inbI, ixN, leN, ltN, eqN, m1E, m1E', m2E, m12, m21, bsm, glE, b2iT, b2iF, if_pos, if_neg, ite_true, ite_false, not_true, not_false_iff, reduceCtorEq]; congr 2; omega
