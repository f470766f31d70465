/-! digits from the top -/
theorem dN_top : ∀ c m, dN (c + 1) m = nI (48 + m / 10 ^ c % 10) :: dN c m
  | 0, m => by
    show dN 0 (m / 10) ++ [nI (48 + m % 10)] = nI (48 + m / 1 % 10) :: []
    rw [Nat.div_one]
    rfl
  | c + 1, m => by
    show dN (c + 1) (m / 10) ++ [nI (48 + m % 10)] = nI (48 + m / 10 ^ (c + 1) % 10) :: (dN c (m / 10) ++ [nI (48 + m % 10)])
    rw [dN_top c (m / 10), Nat.div_div_eq_div_mul, Nat.pow_succ, Nat.mul_comm 10 (10 ^ c)]
    rfl
theorem p10 {c : Nat} (h : c ≤ 10) : 0 < 10 ^ c ∧ 10 ^ c ≤ 10000000000 := ⟨Nat.pow_pos (by omega), by
  have := Nat.pow_le_pow_right (n := 10) (by omega) h
  have e : 10 ^ 10 = 10000000000 := by decide
  omega⟩
theorem n_dn {sm : MoT} {fk fl fr : Int32} {m : Nat} (hm : m < 10000000000) (K : MoT → Option MoT) : ∀ (c fuel : Nat) (tx : List Int32) (t : MoT), c ≤ 10 → c < fuel → tx.length + c ≤ 60 → Sp sm fk fl fr tx t → ∃ t', f_X9_spellsNumber_L48_11 (wN m) K fuel (wN (10 ^ c / 10)) t = K t' ∧ Sp sm fk fl fr (tx ++ dN c m) t'
  | 0, fuel + 1, tx, t, _, _, _, h => by
    refine ⟨t, ?_, by show Sp sm fk fl fr (tx ++ []) t; rw [List.append_nil]; exact h⟩
    rw [f_X9_spellsNumber_L48_11]
    exact if_pos ((lg_le (a := 0) (b := 0) (by omega) (by omega)).mpr (Nat.le_refl _))
  | c + 1, fuel + 1, tx, t, hc, hf, hl, h => by
    have hp := p10 (c := c) (by omega)
    have e0 : 10 ^ (c + 1) / 10 = 10 ^ c := by rw [Nat.pow_succ, Nat.mul_div_cancel _ (by omega)]
    have eq : wN m / wN (10 ^ c) = wN (m / 10 ^ c) := w_div (by omega) (by omega)
    have hq : m / 10 ^ c ≤ m := Nat.div_le_self _ _
    have er : lrem (wN (m / 10 ^ c)) (10 : Int64) = wN (m / 10 ^ c % 10) := w_rem (b := 10) (by omega) (by omega)
    have ev : (48 : Int32) + (wN (m / 10 ^ c % 10)).toInt32 = nI (48 + m / 10 ^ c % 10) := by
      rw [w_32]
      exact nI_add 48 _
    have ed : wN (10 ^ c) / (10 : Int64) = wN (10 ^ c / 10) := w_div (b := 10) (by omega) (by omega)
    obtain ⟨t1, w1, w2⟩ := r_spells h (by omega) (nI (48 + m / 10 ^ c % 10))
    obtain ⟨t', w3, w4⟩ := n_dn hm K c fuel _ t1 (by omega) (by omega) (by rw [List.length_append]; show tx.length + 1 + c ≤ 60; omega) w2
    refine ⟨t', ?_, ?_⟩
    · rw [f_X9_spellsNumber_L48_11, e0, eq, er, ev, ed]
      exact (if_neg (fun z => absurd ((lg_le (b := 0) (by omega) (by omega)).mp z) (by omega))).trans ((if_pos (w_ne hp.1 (by omega))).trans (eb w1 w3))
    · rw [dN_top]
      rw [List.append_assoc] at w4
      exact w4
