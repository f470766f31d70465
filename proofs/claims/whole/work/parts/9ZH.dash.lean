/-! a side that isn't there, spelt -/
theorem ap_d (s : WdT) {tx : List Int32} (h : tx.length < 34) : f_ap s (-2) tx = some (tx ++ [(45 : Int32)]) := by
  unfold f_ap
  exact (if_pos rfl).trans ((if_pos h).trans (by rw [show (45 : Int32).toInt8.toInt32 = 45 by decide]))
theorem r_dash {sm : MoT} {fk fl fr p : Int32} {tx : List Int32} {t : MoT} (h : Sp sm fk fl fr tx t) (ht : tx.length < 64) : ∃ t', f_X9_spellsWord t p (nI 8) = some t' ∧ Sp sm fk fl fr (tx ++ [(45 : Int32)]) t' := by
  obtain ⟨t', w1, w2⟩ := r_spells h ht 45
  refine ⟨t', ?_, w2⟩
  unfold f_X9_spellsWord
  exact (if_pos (by decide)).trans (eb w1 rfl)
theorem ap_w (s : WdT) {k : Nat} (hk : k < 8) {l : List Nat} (hl : wOK l) (H : ∀ i, i < 5 → f_X7_letterAt s (nI k) (nI i) = some (nI (l.getD i 0))) {tx : List Int32} (h : tx.length + 5 ≤ 34) : f_ap s (nI k) tx = some (tx ++ l.map nI) := by
  unfold f_ap
  rw [if_neg (show ¬ nI k = (-2 : Int32) from fun c => by
    have e := congrArg Int32.toInt c
    rw [tI (by omega), show (-2 : Int32).toInt = -2 by decide] at e
    omega)]
  exact apL_w s (nI k) hl H 5 0 tx rfl h
