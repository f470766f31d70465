/-! the digits of a number laid into an array -/
theorem dgt : ∀ d, d < 10 → (nI (d + 48)).toInt8.toInt32 = nI (48 + d) := by decide
theorem vpD {d : Nat} (h : d < 10) : vp_nar .byte (nI (d + 48)) = nI (48 + d) := by rw [vp_nar_byte]; exact dgt d h
theorem fitD {d : Nat} (h : d < 10) : fits .byte (.int (nI (48 + d))) = true := by rw [← dgt d h]; exact pk_fb _
theorem vpO {r : Nat} : vp_nar .byte (digO r) = nI (48 + r % 10) := vpD (d := r % 10) (by omega)
theorem vpT {r : Nat} (h : r < 100) : vp_nar .byte (digT r) = nI (48 + r / 10) := vpD (d := r / 10) (by omega)
theorem gcL (N : Nat) (K : Int32 → Int32 → (Nat → Int32) → Option (Int32 × (Nat → Int32))) : ∀ (n : Nat) (x p : Int32) (s : Nat → Int32), f_J6_getChars_ba4f3_L22_45 N K n x p s = f_J6_getChars_ba4f3_L22_21 N K n x p s
  | 0, _, _, _ => rfl
  | n + 1, x, p, s => by rw [f_J6_getChars_ba4f3_L22_45, f_J6_getChars_ba4f3_L22_21, gcL N K n]
theorem m1_add (p : Nat) : nI (p + 1) + (-1 : Int32) = nI p := by
  rw [← nI_1, Int32.add_assoc, show (1 : Int32) + -1 = 0 by decide]
  exact Int32.add_zero _
theorem sz100 {m : Nat} (h : 100 ≤ m) : sz m = sz (m / 100) + 2 ∨ 10000000000 ≤ m := by
  unfold sz
  repeat' split
  all_goals omega
theorem x_div {x : Int32} {m : Nat} (hx : x.toInt = -(m : Int)) : (x / 100).toInt = -((m / 100 : Nat) : Int) := by
  rw [Int32.toInt_div_of_ne_right _ _ (by decide), hx, show (100 : Int32).toInt = 100 by decide, Int.neg_tdiv]
  rfl
theorem x_rem {x : Int32} {m : Nat} (hm : m ≤ 2147483648) (hx : x.toInt = -(m : Int)) : x / 100 * 100 - x = nI (m % 100) := by
  have h1 := x_div hx
  have h2 : (x / 100 * 100).toInt = -((m / 100 * 100 : Nat) : Int) := by
    rw [Int32.toInt_mul, h1, show (100 : Int32).toInt = 100 by decide, bmI (by omega) (by omega)]
    omega
  apply Int32.toInt_inj.mp
  rw [subI (by omega) (by omega), h2, hx, nI_toInt (by omega)]
  omega
theorem x_neg {x : Int32} {m : Nat} (hm : m < 100) (hx : x.toInt = -(m : Int)) : -x = nI m := by
  apply Int32.toInt_inj.mp
  rw [Int32.toInt_neg, hx, bmI (by omega) (by omega), nI_toInt (by omega)]
  omega
theorem gcA (N g : Nat) (K : Int32 → Int32 → (Nat → Int32) → Option (Int32 × (Nat → Int32))) (hN : N ≤ 34) : ∀ (d m P : Nat) (x : Int32) (s : Nat → Int32), m ≤ 2147483648 → m < 100 ^ (d + 1) → sz m ≤ P → P ≤ N → x.toInt = -(m : Int) → sb_Fit s →
    ∃ e m' x' s', f_J6_getChars_ba4f3_L22_21 N K (g + d + 1) x (nI P) s = K x' (nI (P - e)) s' ∧ m' = m / 10 ^ e ∧ m' < 100 ∧ x'.toInt = -(m' : Int) ∧ e + sz m' = sz m ∧ sb_Fit s' ∧ (∀ j, j < P - e → s' j = s j) ∧ (∀ j, P ≤ j → s' j = s j) ∧ (∀ i, i < e → s' (P - 1 - i) = nI (48 + m / 10 ^ i % 10)) := by
  intro d
  induction d with
  | zero =>
    intro m P x s hm hd hP hPN hx hs
    have h1 : m < 100 := by rw [Nat.zero_add, Nat.pow_one] at hd; exact hd
    have h2 : (-100 : Int32) < x := by rw [ltI, hx, show (-100 : Int32).toInt = -100 by decide]; omega
    exact ⟨0, m, x, s, by rw [f_J6_getChars_ba4f3_L22_21]; exact if_pos h2, by rw [Nat.pow_zero, Nat.div_one], h1, hx, by omega, hs, fun _ _ => rfl, fun _ _ => rfl, fun i hi => absurd hi (Nat.not_lt_zero _)⟩
  | succ d ih =>
    intro m P x s hm hd hP hPN hx hs
    by_cases h1 : m < 100
    · have h2 : (-100 : Int32) < x := by rw [ltI, hx, show (-100 : Int32).toInt = -100 by decide]; omega
      exact ⟨0, m, x, s, by rw [f_J6_getChars_ba4f3_L22_21]; exact if_pos h2, by rw [Nat.pow_zero, Nat.div_one], h1, hx, by omega, hs, fun _ _ => rfl, fun _ _ => rfl, fun i hi => absurd hi (Nat.not_lt_zero _)⟩
    · have h2 : ¬ (-100 : Int32) < x := by rw [ltI, hx, show (-100 : Int32).toInt = -100 by decide]; omega
      have hz : sz m = sz (m / 100) + 2 := by rcases sz100 (m := m) (by omega) with h | h <;> omega
      have hz1 := (sz_le (m / 100)).1
      obtain ⟨P2, rfl⟩ : ∃ P2, P = P2 + 2 := ⟨P - 2, by omega⟩
      have a1 : nI (P2 + 2) + (-1 : Int32) = nI (P2 + 1) := m1_add (P2 + 1)
      have a2 : nI (P2 + 1) + (-1 : Int32) = nI P2 := m1_add P2
      have b1 : inb (nI (m % 100)) 100 := inbN (by omega) (by omega)
      have b2 : inb (nI (P2 + 1)) N := inbN (by omega) (by omega)
      have b3 : inb (nI P2) N := inbN (by omega) (by omega)
      have fs1 : sb_Fit (upd (upd s (P2 + 1) (nI (48 + m % 100 % 10))) P2 (nI (48 + m % 100 / 10))) := sb_fitU (sb_fitU hs (fitD (by omega))) (fitD (by omega))
      have hd' : m / 100 < 100 ^ (d + 1) := by
        rw [Nat.pow_succ] at hd
        exact Nat.div_lt_of_lt_mul (by rw [Nat.mul_comm]; exact hd)
      obtain ⟨e, m', x', s', q1, q2, q3, q4, q5, q6, q7, q8, q9⟩ := ih (m / 100) P2 (x / 100) (upd (upd s (P2 + 1) (nI (48 + m % 100 % 10))) P2 (nI (48 + m % 100 / 10))) (by omega) hd' (by omega) (by omega) (x_div hx) fs1
      refine ⟨e + 2, m', x', s', ?_, ?_, q3, q4, by omega, q6, fun j hj => ?_, fun j hj => ?_, fun i hi => ?_⟩
      · show f_J6_getChars_ba4f3_L22_21 N K ((g + d + 1) + 1) x (nI (P2 + 2)) s = _
        rw [f_J6_getChars_ba4f3_L22_21, x_rem hm hx, a1, a2, ixN (show m % 100 < 2147483648 by omega), ixN (show P2 + 1 < 2147483648 by omega), ixN (show P2 < 2147483648 by omega), vpO, vpT (show m % 100 < 100 by omega)]
        refine (if_neg h2).trans ((if_pos b1).trans ((if_pos b2).trans ((if_pos b1).trans ((if_pos b3).trans (q1.trans ?_)))))
        rw [show P2 + 2 - (e + 2) = P2 - e by omega]
      · rw [q2, Nat.div_div_eq_div_mul, Nat.pow_add, Nat.mul_comm]
      · rw [q7 j (by omega), un (by omega), un (by omega)]
      · rw [q8 j (by omega), un (by omega), un (by omega)]
      · rcases (show i = 0 ∨ i = 1 ∨ ∃ i', i = i' + 2 from by
          rcases i with _ | _ | i
          · exact Or.inl rfl
          · exact Or.inr (Or.inl rfl)
          · exact Or.inr (Or.inr ⟨i, rfl⟩)) with h | h | ⟨i', h⟩
        · subst h
          rw [show P2 + 2 - 1 - 0 = P2 + 1 by omega, q8 (P2 + 1) (by omega), un (by omega), us, Nat.pow_zero, Nat.div_one, show m % 100 % 10 = m % 10 by omega]
        · subst h
          rw [show P2 + 2 - 1 - 1 = P2 by omega, q8 P2 (by omega), us, Nat.pow_one, show m % 100 / 10 = m / 10 % 10 by omega]
        · subst h
          rw [show P2 + 2 - 1 - (i' + 2) = P2 - 1 - i' by omega, q9 i' (by omega), Nat.div_div_eq_div_mul, Nat.pow_add 10 i' 2, Nat.mul_comm (10 ^ i')]
def gcK (N : Nat) (J : Int32 → (Nat → Int32) → Option (Int32 × (Nat → Int32))) (x0 x5 : Int32) (s : Nat → Int32) : Option (Int32 × (Nat → Int32)) := if inb (-x0) 100 then if inb (x5 + (-1 : Int32)) N then if (-9 : Int32) ≤ x0 then J (x5 + (-1 : Int32)) (upd s (ix (x5 + (-1 : Int32))) (vp_nar .byte (digO (ix (-x0))))) else if inb (-x0) 100 then if inb ((x5 + (-1 : Int32)) + (-1 : Int32)) N then J ((x5 + (-1 : Int32)) + (-1 : Int32)) (upd (upd s (ix (x5 + (-1 : Int32))) (vp_nar .byte (digO (ix (-x0))))) (ix ((x5 + (-1 : Int32)) + (-1 : Int32))) (vp_nar .byte (digT (ix (-x0))))) else none else none else none else none
def gcJ (N : Nat) (y2 : Int32) (x5 : Int32) (s : Nat → Int32) : Option (Int32 × (Nat → Int32)) := if y2 = 0 then some (x5, s) else if inb (x5 + (-1 : Int32)) N then some ((x5 + (-1 : Int32)), (upd s (ix (x5 + (-1 : Int32))) (vp_nar .byte (45 : Int32)))) else none
theorem gc_n (N : Nat) (t : Nat → Int32) {v : Int32} (p : Int32) (h : ¬ (0 : Int32) ≤ v) : f_J6_getChars_ba4f3 N t v p = f_J6_getChars_ba4f3_L22_21 N (gcK N (gcJ N 1)) 10000 v p t := by
  unfold f_J6_getChars_ba4f3
  refine eg ((if_neg h).trans ((if_neg (by decide)).trans (eg ?_)))
  refine congrFun (congrFun (congrFun (congrFun (congrArg (f_J6_getChars_ba4f3_L22_21 N) ?_) _) _) _) _
  rfl
theorem gc_p (N : Nat) (t : Nat → Int32) {v : Int32} (p : Int32) (h : (0 : Int32) ≤ v) : f_J6_getChars_ba4f3 N t v p = f_J6_getChars_ba4f3_L22_45 N (gcK N (gcJ N 0)) 10000 (-v) p t := by
  unfold f_J6_getChars_ba4f3
  refine eg ((if_pos h).trans ((if_pos rfl).trans (eg ?_)))
  refine congrFun (congrFun (congrFun (congrFun (congrArg (f_J6_getChars_ba4f3_L22_45 N) ?_) _) _) _) _
  rfl
theorem gcB (N : Nat) (J : Int32 → (Nat → Int32) → Option (Int32 × (Nat → Int32))) (hN : N ≤ 34) {m P : Nat} {x : Int32} {s : Nat → Int32} (hm : m ≤ 2147483648) (hP : sz m ≤ P) (hPN : P ≤ N) (hx : x.toInt = -(m : Int)) (hs : sb_Fit s) :
    ∃ F, f_J6_getChars_ba4f3_L22_21 N (gcK N J) 10000 x (nI P) s = J (nI (P - sz m)) F ∧ sb_Fit F ∧ (∀ j, j < P - sz m → F j = s j) ∧ ∀ i, i < sz m → F (P - 1 - i) = nI (48 + m / 10 ^ i % 10) := by
  obtain ⟨e, m', x', s', q1, q2, q3, q4, q5, q6, q7, q8, q9⟩ := gcA N 9994 (gcK N J) hN 5 m P x s hm (by omega) hP hPN hx hs
  have q1 : f_J6_getChars_ba4f3_L22_21 N (gcK N J) 10000 x (nI P) s = gcK N J x' (nI (P - e)) s' := q1
  have hz := (sz_le m').1
  obtain ⟨P', hP'⟩ : ∃ P', P - e = P' + 1 := ⟨P - e - 1, by omega⟩
  have ng := x_neg q3 q4
  have b1 : inb (-x') 100 := by rw [ng]; exact inbN q3 (by omega)
  have a1 : nI (P' + 1) + (-1 : Int32) = nI P' := m1_add P'
  have b2 : inb (nI P') N := inbN (by omega) (by omega)
  rw [hP'] at q1
  have pos : ∀ i, i < e → P - 1 - i ≠ P' := fun i hi => by omega
  by_cases h9 : m' ≤ 9
  · have z1 : sz m' = 1 := by unfold sz; rw [if_pos (by omega)]
    have c9 : (-9 : Int32) ≤ x' := by rw [leI, q4, show (-9 : Int32).toInt = -9 by decide]; omega
    refine ⟨upd s' P' (nI (48 + m' % 10)), q1.trans ?_, sb_fitU q6 (fitD (by omega)), fun j hj => ?_, fun i hi => ?_⟩
    · unfold gcK
      rw [a1, ng, ixN (show m' < 2147483648 by omega), ixN (show P' < 2147483648 by omega), vpO, show P - sz m = P' by omega]
      rw [ng] at b1
      exact (if_pos b1).trans ((if_pos b2).trans (if_pos c9))
    · rw [un (by omega)]
      exact q7 j (by omega)
    · by_cases c : i < e
      · rw [un (pos i c)]
        exact q9 i c
      · have hi' : i = e := by omega
        subst hi'
        rw [show P - 1 - i = P' by omega, us, q2]
  · have z1 : sz m' = 2 := by unfold sz; rw [if_neg (by omega), if_pos (by omega)]
    have c9 : ¬ (-9 : Int32) ≤ x' := by rw [leI, q4, show (-9 : Int32).toInt = -9 by decide]; omega
    obtain ⟨P3, hP3⟩ : ∃ P3, P' = P3 + 1 := ⟨P' - 1, by omega⟩
    have a2 : nI P' + (-1 : Int32) = nI P3 := by rw [hP3]; exact m1_add P3
    have b3 : inb (nI P3) N := inbN (by omega) (by omega)
    refine ⟨upd (upd s' P' (nI (48 + m' % 10))) P3 (nI (48 + m' / 10)), q1.trans ?_, sb_fitU (sb_fitU q6 (fitD (by omega))) (fitD (by omega)), fun j hj => ?_, fun i hi => ?_⟩
    · unfold gcK
      rw [a1, ng, a2, ixN (show m' < 2147483648 by omega), ixN (show P' < 2147483648 by omega), ixN (show P3 < 2147483648 by omega), vpO, vpT q3, show P - sz m = P3 by omega]
      rw [ng] at b1
      exact (if_pos b1).trans ((if_pos b2).trans ((if_neg c9).trans ((if_pos b1).trans (if_pos b3))))
    · rw [un (by omega), un (by omega)]
      exact q7 j (by omega)
    · by_cases c : i < e
      · have := pos i c
        rw [un (by omega), un this]
        exact q9 i c
      · rcases (show i = e ∨ i = e + 1 by omega) with hi' | hi'
        · subst hi'
          rw [show P - 1 - i = P' by omega, un (by omega), us, q2]
        · subst hi'
          rw [show P - 1 - (e + 1) = P3 by omega, us, Nat.pow_succ, ← Nat.div_div_eq_div_mul, ← q2, Nat.mod_eq_of_lt (show m' / 10 < 10 by omega)]
theorem dN_get : ∀ (c m j : Nat), j < c → (dN c m).getD j 0 = nI (48 + m / 10 ^ (c - 1 - j) % 10)
  | 0, _, _, h => absurd h (Nat.not_lt_zero _)
  | c + 1, m, 0, _ => by
    rw [dN_top]
    rfl
  | c + 1, m, j + 1, h => by
    rw [dN_top, show c + 1 - 1 - (j + 1) = c - 1 - j by omega]
    exact dN_get c m j (by omega)
theorem d_ok (v : Int32) : DigOK v (dg v) := by
  refine ⟨d_size v, dg_le v, fun c N t hN hc ht => ?_⟩
  have hb := v_b v
  have hN34 : N ≤ 34 := by omega
  have z1 := (sz_le v.toInt.natAbs).1
  by_cases q : v < 0
  · have q' : v.toInt < 0 := (Int32.lt_iff_toInt_lt).mp q
    have q0 : ¬ (0 : Int32) ≤ v := by rw [leI, show (0 : Int32).toInt = 0 by decide]; omega
    have ed : dg v = (45 : Int32) :: dN (sz v.toInt.natAbs) v.toInt.natAbs := by
      unfold dg
      rw [if_pos q]
      rfl
    have el : (dg v).length = sz v.toInt.natAbs + 1 := by rw [ed, List.length_cons, dN_len]
    rw [el] at hc ⊢
    obtain ⟨F, f1, f2, f3, f4⟩ := gcB N (gcJ N 1) hN34 (m := v.toInt.natAbs) (P := c + (sz v.toInt.natAbs + 1)) (x := v) (s := t) (by omega) (by omega) hc (by omega) ht
    rw [show c + (sz v.toInt.natAbs + 1) - sz v.toInt.natAbs = c + 1 by omega] at f1 f3
    have ib : inb (nI c) N := inbN (by omega) (by omega)
    have n45 : vp_nar .byte (45 : Int32) = 45 := by rw [vp_nar_byte]; decide
    have ej : gcJ N 1 (nI (c + 1)) F = some (nI c, upd F c (45 : Int32)) := by
      unfold gcJ
      rw [m1_add, n45, ixN (by omega)]
      exact (if_neg (by decide)).trans (if_pos ib)
    refine ⟨nI c, upd F c (45 : Int32), ?_, sb_fitU f2 (by rw [← n45, vp_nar_byte]; exact pk_fb _), fun j hj => by rw [un (by omega)]; exact f3 j (by omega), fun j hj => ?_⟩
    · exact (gc_n N t _ q0).trans (f1.trans ej)
    · rw [ed]
      rcases j with _ | j
      · rw [Nat.add_zero, us]
        rfl
      · rw [un (by omega)]
        have := f4 (sz v.toInt.natAbs - 1 - j) (by omega)
        rw [show c + (sz v.toInt.natAbs + 1) - 1 - (sz v.toInt.natAbs - 1 - j) = c + (j + 1) by omega] at this
        rw [this]
        exact (dN_get _ _ j (by omega)).symm
  · have q' : ¬ v.toInt < 0 := fun h => q ((Int32.lt_iff_toInt_lt).mpr h)
    have q0 : (0 : Int32) ≤ v := by rw [leI, show (0 : Int32).toInt = 0 by decide]; omega
    have ed : dg v = dN (sz v.toInt.natAbs) v.toInt.natAbs := by
      unfold dg
      rw [if_neg q]
      rfl
    have el : (dg v).length = sz v.toInt.natAbs := by rw [ed, dN_len]
    rw [el] at hc ⊢
    have hx : (-v).toInt = -(v.toInt.natAbs : Int) := by
      rw [Int32.toInt_neg, bmI (by omega) (by omega)]
      omega
    obtain ⟨F, f1, f2, f3, f4⟩ := gcB N (gcJ N 0) hN34 (m := v.toInt.natAbs) (P := c + sz v.toInt.natAbs) (x := -v) (s := t) (by omega) (by omega) hc hx ht
    rw [show c + sz v.toInt.natAbs - sz v.toInt.natAbs = c by omega] at f1 f3
    have ej : gcJ N 0 (nI c) F = some (nI c, F) := if_pos rfl
    refine ⟨nI c, F, ?_, f2, f3, fun j hj => ?_⟩
    · refine (gc_p N t _ q0).trans ?_
      exact (gcL N (gcK N (gcJ N 0)) 10000 (-v) (nI (c + sz v.toInt.natAbs)) t).trans (f1.trans ej)
    · rw [ed]
      have := f4 (sz v.toInt.natAbs - 1 - j) (by omega)
      rw [show c + sz v.toInt.natAbs - 1 - (sz v.toInt.natAbs - 1 - j) = c + j by omega] at this
      rw [this]
      exact (dN_get _ _ j (by omega)).symm
