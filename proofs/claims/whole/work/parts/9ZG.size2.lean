theorem v_b (v : Int32) : -2147483648 ≤ v.toInt ∧ v.toInt < 2147483648 := ⟨Int32.le_toInt v, Int32.toInt_lt v⟩
theorem d_size (v : Int32) : f_J6_stringSize_0f7a4 v = some (nI (dg v).length) := by
  have hb := v_b v
  unfold f_J6_stringSize_0f7a4
  refine eg ?_
  by_cases q : v < 0
  · have q' : v.toInt < 0 := (Int32.lt_iff_toInt_lt).mp q
    have el : (dg v).length = 1 + sz v.toInt.natAbs := by
      unfold dg
      rw [List.length_append, dN_len, if_pos q]
      rfl
    rw [el]
    refine (if_pos q).trans (eg (eg ((ssz v _ _ v.toInt.natAbs 9990 (by omega) (by omega)).trans ?_)))
    by_cases z : sz v.toInt.natAbs = 10
    · rw [if_pos z, z]
      rfl
    · rw [if_neg z, Nat.add_comm]
      exact congrArg some (nI_1 _)
  · have q' : ¬ v.toInt < 0 := fun c => q ((Int32.lt_iff_toInt_lt).mpr c)
    have el : (dg v).length = sz v.toInt.natAbs := by
      unfold dg
      rw [List.length_append, dN_len, if_neg q]
      exact Nat.zero_add _
    have en : (-v).toInt = -v.toInt := by
      rw [Int32.toInt_neg]
      exact Int.bmod_eq_of_le (by omega) (by omega)
    rw [el]
    refine (if_neg q).trans (eg (eg ((ssz (-v) _ _ v.toInt.natAbs 9990 (by rw [en]; omega) (by omega)).trans ?_)))
    by_cases z : sz v.toInt.natAbs = 10
    · rw [if_pos z, z]
      rfl
    · rw [if_neg z]
      exact congrArg some (Int32.add_zero _)
