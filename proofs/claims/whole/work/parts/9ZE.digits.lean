/-! decimal digits -/
def dN : Nat → Nat → List Int32
  | 0, _ => []
  | c + 1, m => dN c (m / 10) ++ [nI (48 + m % 10)]
def sz (m : Nat) : Nat := if m < 10 then 1 else if m < 100 then 2 else if m < 1000 then 3 else if m < 10000 then 4 else if m < 100000 then 5 else if m < 1000000 then 6 else if m < 10000000 then 7 else if m < 100000000 then 8 else if m < 1000000000 then 9 else 10
def dg (v : Int32) : List Int32 := (if v < 0 then [(45 : Int32)] else []) ++ dN (sz v.toInt.natAbs) v.toInt.natAbs
theorem dN_len : ∀ c m, (dN c m).length = c
  | 0, _ => rfl
  | c + 1, m => by
    show (dN c (m / 10) ++ [_]).length = c + 1
    rw [List.length_append, dN_len c]
    rfl
theorem sz_le (m : Nat) : 1 ≤ sz m ∧ sz m ≤ 10 := by
  unfold sz
  repeat' split
  all_goals omega
theorem dg_le (v : Int32) : (dg v).length ≤ 11 := by
  have h := sz_le v.toInt.natAbs
  unfold dg
  rw [List.length_append, dN_len]
  split
  · show 1 + _ ≤ 11
    omega
  · show 0 + _ ≤ 11
    omega
