/-! spellsNumber -/
theorem sz_at (m : Nat) (hm : m < 10000000000) : ∀ i, i < 10 → (m / 10 ^ i ≤ 9 ↔ sz m ≤ i + 1) := by
  intro i hi
  have hs : sz m = if m < 10 then 1 else if m < 100 then 2 else if m < 1000 then 3 else if m < 10000 then 4 else if m < 100000 then 5 else if m < 1000000 then 6 else if m < 10000000 then 7 else if m < 100000000 then 8 else if m < 1000000000 then 9 else 10 := rfl
  rcases i with _ | _ | _ | _ | _ | _ | _ | _ | _ | _ | i
  all_goals first
    | omega
    | (simp only [Nat.reducePow, Nat.reduceAdd, Nat.zero_add] ; repeat' split at hs) <;> omega
theorem n_up {m : Nat} (hm : m < 10000000000) (K : Int64 → Option MoT) : ∀ (d i fuel : Nat), i + d + 1 = sz m → d < fuel → f_X9_spellsNumber_L26_18 (wN m) K fuel (wN (10 ^ i)) = K (wN (10 ^ sz m / 10))
  | 0, i, fuel + 1, h, _ => by
    have hz := (sz_le m).2
    have hp := p10 (c := i) (by omega)
    have hq : m / 10 ^ i ≤ m := Nat.div_le_self _ _
    rw [f_X9_spellsNumber_L26_18, w_div (by omega) (by omega), show 10 ^ sz m / 10 = 10 ^ i by rw [← h, Nat.add_zero, Nat.pow_succ, Nat.mul_div_cancel _ (by omega)]]
    exact (if_pos (w_ne hp.1 (by omega))).trans (if_pos ((lg_le (b := 9) (by omega) (by omega)).mpr ((sz_at m hm i (by omega)).mpr (by omega))))
  | d + 1, i, fuel + 1, h, hf => by
    have hz := (sz_le m).2
    have hp := p10 (c := i) (by omega)
    have hq : m / 10 ^ i ≤ m := Nat.div_le_self _ _
    have em : wN (10 ^ i) * (10 : Int64) = wN (10 ^ (i + 1)) := w_mul (10 ^ i) 10
    rw [f_X9_spellsNumber_L26_18, w_div (by omega) (by omega), em]
    exact (if_pos (w_ne hp.1 (by omega))).trans ((if_neg (fun c => absurd ((sz_at m hm i (by omega)).mp ((lg_le (b := 9) (by omega) (by omega)).mp c)) (by omega))).trans (n_up hm K d (i + 1) fuel (by omega) (by omega)))
