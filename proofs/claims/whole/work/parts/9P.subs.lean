/-! subscribers -/
theorem sub2 {n kc vc : Nat} {s : OuBT} {sm : MoT} (hn : n < 512) (h : RB n kc vc s sm) (p : Int32) : (∃ w, w < 4 ∧ p = nI w ∧ f_X8_isSubscribed_B s p = some 1 ∧ f_X9_hasBegun (mT sm) p = some 1 ∧ ∃ T sn, sn ≤ T ∧ T ≤ 960 * n ∧ RBk 0 kc vc T (360 * n) (OuB_books s) (Mo_words sm) (Mo_x sm) ∧ Sb_seen (Bk_subscribers (OuB_books s)) w = nI sn ∧ Mo_x sm (1379 + 1298 * w + 1) = nI sn ∧ ∀ r, r < 648 → Sb_holds (Bk_subscribers (OuB_books s)) (648 * w + r) = Mo_x sm (1379 + 1298 * w + (2 + r)) ∧ Sb_differences (Bk_subscribers (OuB_books s)) (648 * w + r) = Mo_x sm (1379 + 1298 * w + (650 + r))) ∨ (f_X8_isSubscribed_B s p = some 0 ∧ f_X9_hasBegun (mT sm) p = some 0) := by
  have nT := h.nT
  obtain ⟨_, _, _, T, hT, hR⟩ := h
  have hSb := hR.2.2.2.2.2.2.2.1
  unfold f_X8_isSubscribed_B f_X9_hasBegun
  rcases rng p 3 (by omega) with ⟨w, hw, rfl, q1, q2⟩ | ⟨q, q'⟩
  · have i1 := (inQ (nI w) (m := 3) (by omega)).1 ⟨w, hw, rfl⟩
    have q3 : ¬ (4 : Int32) ≤ nI w := nI_ge (b := 4) (by omega) (by omega)
    have sa : f_X9_subAt (nI w) 0 = some (nI (1379 + 1298 * w)) := by
      unfold f_X9_subAt
      simp (disch := omega) only [li_0, li_1, li_2, li_3, li_4, li_5, li_6, li_7, li_8, li_9, li_10, li_11, li_12, li_13, li_14, li_15, li_16, li_20, li_30, li_31, li_32, li_40, li_42, li_45, li_48, li_57, li_58, li_59, li_60, li_64, li_74, li_75, li_81, li_97, li_122, li_124, li_143, li_151, li_159, li_167, li_175, li_200, li_255, li_648, li_650, li_823, li_900, li_999, li_1123, li_1298, li_1363, li_1379, li_2592, li_6571, li_9999, li_65536, li_65537, ng1, ng2, nI_add, pk_mul, remN, divN, inbI, ixN, leN, ltN, eqN, m1E, m1E', m2E, m12, m21, bsm, glE, b2iT, b2iF, if_pos, if_neg, ite_true, ite_false, not_true, not_false_iff, reduceCtorEq]
      rfl
    have gx := gTx sm (i := 1379 + 1298 * w) (by omega)
    have hI : inb (nI w) 4 := inbN (by omega) (by omega)
    have hix : ix (nI w) = w := ixN (by omega)
    rcases hSb w (by omega) with ⟨a, b⟩ | ⟨sn, a1, a2, a3, a4, a5⟩
    · have b : Mo_x sm (1379 + 1298 * w) = nI 0 := (congrArg (Mo_x sm) (by omega)).trans b
      rw [b] at gx
      have cb : f_X5_hasBegun (Bk_subscribers (OuB_books s)) (nI w) = some 0 := by
        unfold f_X5_hasBegun
        rw [hix, a]
        exact (if_neg q1).trans ((if_neg q3).trans ((if_pos hI).trans (if_pos rfl)))
      exact Or.inr ⟨eb cb rfl, (if_neg nT).trans (eb i1 ((if_neg (by decide)).trans (eb sa (eb gx (if_neg (by decide))))))⟩
    · have b : Mo_x sm (1379 + 1298 * w) = nI 1 := (congrArg (Mo_x sm) (by omega)).trans a3
      rw [b] at gx
      have hs : sn < 2147483648 := by omega
      · have cb : f_X5_hasBegun (Bk_subscribers (OuB_books s)) (nI w) = some 1 := by
          unfold f_X5_hasBegun
          rw [hix, a2]
          exact (if_neg q1).trans ((if_neg q3).trans ((if_pos hI).trans (if_neg (fun e => (m1E (n := sn) hs).mp e))))
        refine Or.inl ⟨w, by omega, rfl, eb cb rfl, (if_neg nT).trans (eb i1 ((if_neg (by decide)).trans (eb sa (eb gx (if_pos rfl))))), T, sn, a1, hT, hR, a2, (congrArg (Mo_x sm) (by omega)).trans a4, fun r hr => ⟨(a5 r hr).1.trans (congrArg (Mo_x sm) (by omega)), (a5 r hr).2.trans (congrArg (Mo_x sm) (by omega))⟩⟩
  · have i1 := (inQ p (m := 3) (by omega)).2 q
    have cb : f_X5_hasBegun (Bk_subscribers (OuB_books s)) p = some 0 := by
      unfold f_X5_hasBegun
      rcases q with q | q
      · exact if_pos q
      · exact (if_neg (ge2 q (by omega)).1).trans (if_pos q)
    exact Or.inr ⟨eb cb rfl, (if_neg nT).trans (eb i1 rfl)⟩
/-- how many of the first n are not 0 -/
def pre (f : Nat → Int32) : Nat → Nat
  | 0 => 0
  | n + 1 => if f n = nI 0 then pre f n else pre f n + 1
theorem pre_le (f : Nat → Int32) : ∀ n, pre f n ≤ n
  | 0 => Nat.le_refl _
  | n + 1 => by
    have := pre_le f n
    unfold pre
    split <;> omega
theorem pre_mono (f : Nat → Int32) {a : Nat} : ∀ b, a ≤ b → pre f a ≤ pre f b
  | 0, h => by rw [show a = 0 by omega]; exact Nat.le_refl _
  | b + 1, h => by
    by_cases e : a = b + 1
    · rw [e]; exact Nat.le_refl _
    · have := pre_mono f (a := a) b (by omega)
      show _ ≤ (if f b = nI 0 then pre f b else pre f b + 1)
      split <;> omega
theorem pre_congr {f g : Nat → Int32} : ∀ n, (∀ i, i < n → f i = g i) → pre f n = pre g n
  | 0, _ => rfl
  | n + 1, h => by
    show (if f n = nI 0 then pre f n else pre f n + 1) = (if g n = nI 0 then pre g n else pre g n + 1)
    rw [pre_congr n (fun i hi => h i (by omega)), h n (by omega)]
/-- the place of the i-th that isn't 0 -/
theorem pre_at (f : Nat → Int32) {i : Nat} : ∀ n, i < pre f n → ∃ r, r < n ∧ f r ≠ nI 0 ∧ pre f r = i
  | 0, h => absurd h (Nat.not_lt_zero _)
  | n + 1, h => by
    have h' : i < (if f n = nI 0 then pre f n else pre f n + 1) := h
    by_cases q : f n = nI 0
    · rw [if_pos q] at h'
      obtain ⟨r, a, b, c⟩ := pre_at f n h'
      exact ⟨r, by omega, b, c⟩
    · rw [if_neg q] at h'
      by_cases e : i = pre f n
      · exact ⟨n, by omega, q, e.symm⟩
      · obtain ⟨r, a, b, c⟩ := pre_at f (i := i) n (by omega)
        exact ⟨r, by omega, b, c⟩
theorem pre_lt {f : Nat → Int32} {r n : Nat} (h : r < n) (hf : f r ≠ nI 0) : pre f r < pre f n := by
  have e : pre f (r + 1) = pre f r + 1 := if_neg hf
  have := pre_mono f (a := r + 1) n (by omega)
  omega
theorem c_count {N o : Nat} (t : Nat → Int32) (ho : o + 648 ≤ N) (hN : N < 100000) : f_X8_countFilled N t (nI o) = some (nI (pre (fun r => t (o + r)) 648)) := by
  unfold f_X8_countFilled
  rw [glE, li_0]
  refine lpc (L := fun n i c => f_X8_countFilled_L4_5 N t (nI o) (fun x => some x) n c i) (K := fun x => some x) 648 (fun r => nI (pre (fun r => t (o + r)) r)) ?_ ?_ (by omega)
  · intro n
    show f_X8_countFilled_L4_5 N t (nI o) (fun x => some x) (n + 1) _ (nI 648) = _
    rw [f_X8_countFilled_L4_5]
    exact if_pos (by decide)
  · intro n r hr
    show f_X8_countFilled_L4_5 N t (nI o) (fun x => some x) (n + 1) (nI (pre (fun r => t (o + r)) r)) (nI r) = f_X8_countFilled_L4_5 N t (nI o) (fun x => some x) n (nI (if t (o + r) = nI 0 then pre (fun r => t (o + r)) r else pre (fun r => t (o + r)) r + 1)) (nI (r + 1))
    rw [f_X8_countFilled_L4_5, nI_add, ixN (by omega), show nI r + (1 : Int32) = nI (r + 1) from nI_1 r, show nI (pre (fun r => t (o + r)) r) + (1 : Int32) = nI (pre (fun r => t (o + r)) r + 1) from nI_1 _]
    refine (if_neg (nI_ge hr (by omega))).trans ((if_pos (inbN (by omega) (by omega))).trans ?_)
    by_cases q : t (o + r) = nI 0
    · rw [if_pos q]
      exact if_pos q
    · rw [if_neg q]
      exact if_neg q
/-- the i-th place that is filled, or none -/
theorem c_filled {N o : Nat} (t : Nat → Int32) (p : Int32) (ho : o + 648 ≤ N) (hN : N < 100000) :
    (∀ i r, p = nI i → r < 648 → t (o + r) ≠ nI 0 → pre (fun r => t (o + r)) r = i → f_X8_filledPlace N t (nI o) p = some (nI r)) ∧ ((∀ i, i < pre (fun r => t (o + r)) 648 → p ≠ nI i) → f_X8_filledPlace N t (nI o) p = some (-1)) := by
  have step : ∀ (K1 : Int32 → Option Int32) (K3 : Unit → Option Int32) n r, r < 648 → f_X8_filledPlace_L5_6 N t (nI o) p K1 K3 (n + 1) (nI (pre (fun r => t (o + r)) r)) (nI r) = if t (o + r) = nI 0 then f_X8_filledPlace_L5_6 N t (nI o) p K1 K3 n (nI (pre (fun r => t (o + r)) (r + 1))) (nI (r + 1)) else if nI (pre (fun r => t (o + r)) r) = p then K1 (nI r) else f_X8_filledPlace_L5_6 N t (nI o) p K1 K3 n (nI (pre (fun r => t (o + r)) (r + 1))) (nI (r + 1)) := by
    intro K1 K3 n r hr
    have e1 : pre (fun r => t (o + r)) (r + 1) = (if t (o + r) = nI 0 then pre (fun r => t (o + r)) r else pre (fun r => t (o + r)) r + 1) := rfl
    rw [f_X8_filledPlace_L5_6, nI_add, ixN (by omega), show nI r + (1 : Int32) = nI (r + 1) from nI_1 r, show nI (pre (fun r => t (o + r)) r) + (1 : Int32) = nI (pre (fun r => t (o + r)) r + 1) from nI_1 _]
    refine (if_neg (nI_ge hr (by omega))).trans ((if_pos (inbN (by omega) (by omega))).trans ?_)
    by_cases q : t (o + r) = nI 0
    · rw [if_pos q, e1, if_pos q]
      exact if_pos q
    · rw [if_neg q, e1, if_neg q]
      exact if_neg q
  unfold f_X8_filledPlace
  rw [glE, glE, li_0]
  constructor
  · intro i r hp hr hf hi
    refine lp (L := fun n j c => f_X8_filledPlace_L5_6 N t (nI o) p (fun (x4_2 : Int32) => some (x4_2)) (fun (_ : Unit) => some ((-1 : Int32))) n c j) 648 (fun j c => c = nI (pre (fun r => t (o + r)) j) ∧ j ≤ r) (fun o => o = some (nI r)) ?_ ?_ 10000 0 (nI 0) (by omega) (by omega) ⟨rfl, by omega⟩
    · rintro n c ⟨_, h⟩
      omega
    · rintro n j c hj ⟨rfl, h⟩
      have e := step (fun (x4_2 : Int32) => some (x4_2)) (fun (_ : Unit) => some ((-1 : Int32))) n j hj
      by_cases q : j = r
      · subst q
        rw [if_neg hf, if_pos (by rw [hi, hp])] at e
        exact Or.inl e
      · refine Or.inr ⟨nI (pre (fun r => t (o + r)) (j + 1)), ⟨rfl, by omega⟩, ?_⟩
        by_cases q2 : t (o + j) = nI 0
        · rw [if_pos q2] at e
          exact e
        · have l1 := pre_lt (f := fun r => t (o + r)) (r := j) (n := r) (by omega) q2
          have l2 := pre_le (fun r => t (o + r)) r
          have ne : ¬ nI (pre (fun r => t (o + r)) j) = p := by
            rw [hp]
            intro e2
            have := (nI_eq (a := pre (fun r => t (o + r)) j) (b := i) (by omega) (by omega)).mp e2
            omega
          rw [if_neg q2, if_neg ne] at e
          exact e
  · intro hp
    refine lp (L := fun n j c => f_X8_filledPlace_L5_6 N t (nI o) p (fun (x4_2 : Int32) => some (x4_2)) (fun (_ : Unit) => some ((-1 : Int32))) n c j) 648 (fun j c => c = nI (pre (fun r => t (o + r)) j)) (fun o => o = some (-1)) ?_ ?_ 10000 0 (nI 0) (by omega) (by omega) rfl
    · rintro n c rfl
      show f_X8_filledPlace_L5_6 N t (nI o) p _ _ (n + 1) _ (nI 648) = _
      rw [f_X8_filledPlace_L5_6]
      exact if_pos (by decide)
    · rintro n j c hj rfl
      have e := step (fun (x4_2 : Int32) => some (x4_2)) (fun (_ : Unit) => some ((-1 : Int32))) n j hj
      refine Or.inr ⟨nI (pre (fun r => t (o + r)) (j + 1)), rfl, ?_⟩
      by_cases q2 : t (o + j) = nI 0
      · rw [if_pos q2] at e
        exact e
      · have l1 := pre_lt (f := fun r => t (o + r)) (r := j) (n := 648) (by omega) q2
        rw [if_neg q2, if_neg (fun e2 => hp _ l1 e2.symm)] at e
        exact e
/-- what was sent of a row, by its place: the reference's own sum is the class's -/
theorem RB.sat {n kc vc : Nat} {s : OuBT} {sm : MoT} (hn : n < 512) (h : RB n kc vc s sm) : ∀ (m : MoT) (y : Nat → Int32), (∀ i, i < 1379 → y i = Mo_x sm i) → ∀ p, p < 648 → f_X9_sentAt (mo m y) (nI p) = some (Bd_sums (Bk_board (OuB_books s)) p) := by
  intro m y hy p hp
  obtain ⟨_, _, _, T, hT, ⟨g, hBd⟩, _, _, _, _, hKn, _, _, hNb⟩ := h
  have hB' := hBd.bank (y := fun i => if i < 1379 then y i else Mo_x sm i) (fun i _ h2 => by
    by_cases q : i < 1379
    · simp only [if_pos q]; exact hy i q
    · simp only [if_neg q])
  have e1 : nI p / (9 : Int32) = nI (p / 9) := divN (d := 9) (by omega) (by omega) (by omega)
  have e2 : irem (nI (p / 9)) (9 : Int32) = nI (p / 9 % 9) := remN (d := 9) (by omega) (by omega) (by omega)
  have e3 : irem (nI p) (9 : Int32) = nI (p % 9) := remN (d := 9) (by omega) (by omega) (by omega)
  have e4 : nI p / (81 : Int32) = nI (p / 81) := divN (d := 81) (by omega) (by omega) (by omega)
  have ep : 81 * (p / 81) + 9 * (p / 9 % 9) + p % 9 = p := by omega
  have hnB : nB (xn y 0) := fun i hi => by
    unfold xn
    rw [hy _ (by omega), show Mo_x sm (6571 * 0 + 15 + i) = Bd_nets (Bk_board (OuB_books s)) i from (hBd.1 i hi).symm]
    exact hNb.nB (by omega) i hi
  have sen : ∀ (hlr : p / 9 % 9 < 8 ∨ p % 9 < 8), f_X9_sentOf (mo m y) 0 (nI (p / 81)) (nI (p / 9 % 9)) (nI (p % 9)) = some (Bd_sums (Bk_board (OuB_books s)) p) := by
    intro hlr
    have e := r_sent m y (b := 0) (h := g) (by omega) hBd.2.2.2.1 ((hy _ (by omega)).trans hBd.2.2.1) (k := p / 81) (l := p / 9 % 9) (r := p % 9) (by omega) (by omega) (by omega) hlr hnB
    have e5 := hBd.2.2.2.2.2.2 (p / 81) (p / 9 % 9) (p % 9) (by omega) (by omega) (by omega)
    rw [ep] at e e5
    rw [e5]
    refine e.trans ?_
    rw [hy _ (by omega), J_congr (nt := Bd_nets (Bk_board (OuB_books s))) (nt' := xn y 0) (by omega) (fun i hi => by rw [hBd.1 i hi]; unfold xn; exact (hy _ (by omega)).symm)]
  unfold f_X9_sentAt
  rw [e1, e2, e3, e4]
  refine eg ?_
  by_cases q : p / 9 % 9 < 8
  · exact (if_pos (nI_lt (b := 8) q (by omega))).trans (eb (sen (Or.inl q)) rfl)
  · by_cases q2 : p % 9 < 8
    · exact (if_neg (nI_nlt (b := 8) (by omega) (by omega))).trans ((if_neg (nI_ge (b := 8) q2 (by omega))).trans (eb (sen (Or.inr q2)) rfl))
    · refine (if_neg (nI_nlt (b := 8) (by omega) (by omega))).trans ((if_pos (nI_le (a := 8) (by omega) (by omega))).trans ?_)
      have e5 := hBd.2.2.2.2.2.2 (p / 81) (p / 9 % 9) (p % 9) (by omega) (by omega) (by omega)
      have ec : Mo_x sm (6571 * 0 + (175 + (81 * (p / 81) + 9 * (p / 9 % 9) + p % 9))) = nI 0 := Classical.byContradiction (fun hne => by
        have := (hKn.2 (p / 81) (p / 9 % 9) (p % 9) (by omega) (by omega) (by omega) hne).2.2.2
        omega)
      rw [ec] at e5
      rw [ep] at e5
      rw [e5]
      unfold J
      rw [if_neg q, if_neg q2]
      rfl
