/-! small numbers of 64 bits -/
theorem w_div {a b : Nat} (ha : a < 9223372036854775808) (hb : b < 9223372036854775808) : wN a / wN b = wN (a / b) := (Int64.ofNat_div ha hb).symm
theorem w_mul (a b : Nat) : wN a * wN b = wN (a * b) := (Int64.ofNat_mul a b).symm
theorem w_rem {a b : Nat} (ha : a < 9223372036854775808) (hb : b < 9223372036854775808) : lrem (wN a) (wN b) = wN (a % b) := by
  show wN a - wN a / wN b * wN b = _
  have h : a / b * b ≤ a := Nat.div_mul_le_self a b
  have e : a - a / b * b = a % b := by
    have := Nat.div_add_mod a b
    rw [Nat.mul_comm] at this
    omega
  rw [w_div ha hb, w_mul, ← e]
  exact (Int64.ofNat_sub a (a / b * b) h).symm
theorem w_32 (a : Nat) : (wN a).toInt32 = nI a := Int64.toInt32_ofNat'
theorem w_int {a : Nat} (ha : a < 9223372036854775808) : (wN a).toInt = a := Int64.toInt_ofNat_of_lt ha
theorem w_ne {a : Nat} (h0 : 0 < a) (ha : a < 9223372036854775808) : ¬ wN a = (0 : Int64) := fun c => by
  have e := congrArg Int64.toInt c
  rw [w_int ha, show (0 : Int64).toInt = 0 by decide] at e
  omega
theorem lg_le {a b : Nat} (ha : a < 9223372036854775808) (hb : b < 9223372036854775808) : lg_cmp (wN a) (wN b) ≤ 0 ↔ a ≤ b := by
  unfold lg_cmp
  have e : (wN a > wN b) ↔ b < a := by
    rw [gt_iff_lt, Int64.lt_iff_toInt_lt, w_int ha, w_int hb]
    omega
  by_cases q : b < a
  · rw [if_pos (e.mpr q)]
    exact ⟨fun c => absurd c (by decide), fun c => by omega⟩
  · rw [if_neg (fun c => q (e.mp c))]
    refine ⟨fun _ => by omega, fun _ => ?_⟩
    split
    · decide
    · decide
