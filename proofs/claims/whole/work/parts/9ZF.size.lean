/-! how long a number is spelt -/
theorem ss_s (x : Int32) (K4 : Int32 → Option Int32) (K6 : Unit → Option Int32) (n i : Nat) (c c' : Int32) (hi : ¬ (10 : Int32) ≤ nI i) (hc : (10 : Int32) * c = c') : f_J6_stringSize_0f7a4_L16_9 x K4 K6 (n + 1) c (nI i) = if x ≤ c then f_J6_stringSize_0f7a4_L16_9 x K4 K6 n c' (nI (i + 1)) else K4 (nI i) := by
  rw [f_J6_stringSize_0f7a4_L16_9, hc, show nI i + (1 : Int32) = nI (i + 1) from nI_1 i]
  exact if_neg hi
theorem ssz (x : Int32) (K4 : Int32 → Option Int32) (K6 : Unit → Option Int32) (m n : Nat) (hx : x.toInt = -(m : Int)) (hm : m ≤ 2147483648) : f_J6_stringSize_0f7a4_L16_9 x K4 K6 (n + 10) (-10) (nI 1) = if sz m = 10 then K6 () else K4 (nI (sz m)) := by
  have l1 : x ≤ (-10 : Int32) ↔ 10 ≤ m := by
    rw [Int32.le_iff_toInt_le, hx, show (-10 : Int32).toInt = -10 by decide]
    omega
  refine (ss_s x K4 K6 (n + 9) 1 (-10) (-100) (by decide) (by decide)).trans ?_
  by_cases q1 : m < 10
  · have e : sz m = 1 := by
      unfold sz
      repeat' split
      all_goals omega
    rw [e]
    exact (if_neg (fun c => absurd (l1.mp c) (by omega))).trans (if_neg (by decide)).symm
  refine (if_pos (l1.mpr (by omega))).trans ?_
  have l2 : x ≤ (-100 : Int32) ↔ 100 ≤ m := by
    rw [Int32.le_iff_toInt_le, hx, show (-100 : Int32).toInt = -100 by decide]
    omega
  refine (ss_s x K4 K6 (n + 8) 2 (-100) (-1000) (by decide) (by decide)).trans ?_
  by_cases q2 : m < 100
  · have e : sz m = 2 := by
      unfold sz
      repeat' split
      all_goals omega
    rw [e]
    exact (if_neg (fun c => absurd (l2.mp c) (by omega))).trans (if_neg (by decide)).symm
  refine (if_pos (l2.mpr (by omega))).trans ?_
  have l3 : x ≤ (-1000 : Int32) ↔ 1000 ≤ m := by
    rw [Int32.le_iff_toInt_le, hx, show (-1000 : Int32).toInt = -1000 by decide]
    omega
  refine (ss_s x K4 K6 (n + 7) 3 (-1000) (-10000) (by decide) (by decide)).trans ?_
  by_cases q3 : m < 1000
  · have e : sz m = 3 := by
      unfold sz
      repeat' split
      all_goals omega
    rw [e]
    exact (if_neg (fun c => absurd (l3.mp c) (by omega))).trans (if_neg (by decide)).symm
  refine (if_pos (l3.mpr (by omega))).trans ?_
  have l4 : x ≤ (-10000 : Int32) ↔ 10000 ≤ m := by
    rw [Int32.le_iff_toInt_le, hx, show (-10000 : Int32).toInt = -10000 by decide]
    omega
  refine (ss_s x K4 K6 (n + 6) 4 (-10000) (-100000) (by decide) (by decide)).trans ?_
  by_cases q4 : m < 10000
  · have e : sz m = 4 := by
      unfold sz
      repeat' split
      all_goals omega
    rw [e]
    exact (if_neg (fun c => absurd (l4.mp c) (by omega))).trans (if_neg (by decide)).symm
  refine (if_pos (l4.mpr (by omega))).trans ?_
  have l5 : x ≤ (-100000 : Int32) ↔ 100000 ≤ m := by
    rw [Int32.le_iff_toInt_le, hx, show (-100000 : Int32).toInt = -100000 by decide]
    omega
  refine (ss_s x K4 K6 (n + 5) 5 (-100000) (-1000000) (by decide) (by decide)).trans ?_
  by_cases q5 : m < 100000
  · have e : sz m = 5 := by
      unfold sz
      repeat' split
      all_goals omega
    rw [e]
    exact (if_neg (fun c => absurd (l5.mp c) (by omega))).trans (if_neg (by decide)).symm
  refine (if_pos (l5.mpr (by omega))).trans ?_
  have l6 : x ≤ (-1000000 : Int32) ↔ 1000000 ≤ m := by
    rw [Int32.le_iff_toInt_le, hx, show (-1000000 : Int32).toInt = -1000000 by decide]
    omega
  refine (ss_s x K4 K6 (n + 4) 6 (-1000000) (-10000000) (by decide) (by decide)).trans ?_
  by_cases q6 : m < 1000000
  · have e : sz m = 6 := by
      unfold sz
      repeat' split
      all_goals omega
    rw [e]
    exact (if_neg (fun c => absurd (l6.mp c) (by omega))).trans (if_neg (by decide)).symm
  refine (if_pos (l6.mpr (by omega))).trans ?_
  have l7 : x ≤ (-10000000 : Int32) ↔ 10000000 ≤ m := by
    rw [Int32.le_iff_toInt_le, hx, show (-10000000 : Int32).toInt = -10000000 by decide]
    omega
  refine (ss_s x K4 K6 (n + 3) 7 (-10000000) (-100000000) (by decide) (by decide)).trans ?_
  by_cases q7 : m < 10000000
  · have e : sz m = 7 := by
      unfold sz
      repeat' split
      all_goals omega
    rw [e]
    exact (if_neg (fun c => absurd (l7.mp c) (by omega))).trans (if_neg (by decide)).symm
  refine (if_pos (l7.mpr (by omega))).trans ?_
  have l8 : x ≤ (-100000000 : Int32) ↔ 100000000 ≤ m := by
    rw [Int32.le_iff_toInt_le, hx, show (-100000000 : Int32).toInt = -100000000 by decide]
    omega
  refine (ss_s x K4 K6 (n + 2) 8 (-100000000) (-1000000000) (by decide) (by decide)).trans ?_
  by_cases q8 : m < 100000000
  · have e : sz m = 8 := by
      unfold sz
      repeat' split
      all_goals omega
    rw [e]
    exact (if_neg (fun c => absurd (l8.mp c) (by omega))).trans (if_neg (by decide)).symm
  refine (if_pos (l8.mpr (by omega))).trans ?_
  have l9 : x ≤ (-1000000000 : Int32) ↔ 1000000000 ≤ m := by
    rw [Int32.le_iff_toInt_le, hx, show (-1000000000 : Int32).toInt = -1000000000 by decide]
    omega
  refine (ss_s x K4 K6 (n + 1) 9 (-1000000000) (-1410065408) (by decide) (by decide)).trans ?_
  by_cases q9 : m < 1000000000
  · have e : sz m = 9 := by
      unfold sz
      repeat' split
      all_goals omega
    rw [e]
    exact (if_neg (fun c => absurd (l9.mp c) (by omega))).trans (if_neg (by decide)).symm
  refine (if_pos (l9.mpr (by omega))).trans ?_
  have e : sz m = 10 := by
    unfold sz
    repeat' split
    all_goals omega
  rw [e, f_J6_stringSize_0f7a4_L16_9]
  exact (if_pos (by decide)).trans (if_pos rfl).symm
