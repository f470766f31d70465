/-! a word spelt -/
theorem ch_ok : ∀ a, a < 123 → 97 ≤ a → (¬ (255 : Int32) < c2c (nI a)) ∧ (c2c (nI a)).toInt8.toInt32 = nI a ∧ ¬ nI a = 0 := by
  decide +kernel
theorem apL_w (s : WdT) (p : Int32) {l : List Nat} (hl : wOK l) (H : ∀ i, i < 5 → f_X7_letterAt s p (nI i) = some (nI (l.getD i 0))) : ∀ (j i : Nat) (tx : List Int32), i + j = 5 → tx.length + j ≤ 34 → f_apL s p j i tx = some (tx ++ (l.drop i).map nI)
  | 0, i, tx, h1, h2 => by
    have h5 := hl.2.1
    rw [List.drop_eq_nil_of_le (by omega)]
    show some tx = some (tx ++ [])
    rw [List.append_nil]
  | j + 1, i, tx, h1, h2 => by
    rw [f_apL]
    refine eb (H i (by omega)) ?_
    by_cases q : i < l.length
    · have hm := hl.2.2 _ (List.getElem_mem q)
      have hg : l.getD i 0 = l[i] := by rw [List.getD_eq_getElem?_getD, List.getElem?_eq_getElem q]; rfl
      obtain ⟨c1, c2, c3⟩ := ch_ok l[i] (by omega) hm.1
      rw [hg]
      refine (if_neg c3).trans ((if_pos ⟨c1, by omega⟩).trans ?_)
      rw [c2, apL_w s p hl H j (i + 1) (tx ++ [nI l[i]]) (by omega) (by rw [List.length_append]; show tx.length + 1 + j ≤ 34; omega), List.drop_eq_getElem_cons q, List.map_cons, List.append_assoc]
      rfl
    · rw [List.getD_eq_getElem?_getD, List.getElem?_eq_none (by omega)]
      refine (if_pos rfl).trans ?_
      rw [apL_w s p hl H j (i + 1) tx (by omega) (by omega), List.drop_eq_nil_of_le (by omega), List.drop_eq_nil_of_le (by omega)]
theorem r_word {sm : MoT} {fk fl fr : Int32} {b k : Nat} {l : List Nat} (hb : b ≤ 1) (hk : k < 8) (hl : wOK l) (hw : Mo_words sm (8 * b + k) = Int64.ofNat (be5 l)) {tx : List Int32} {t : MoT} (h : Sp sm fk fl fr tx t) (ht : tx.length + 5 ≤ 60) :
    ∃ t', f_X9_spellsWord t (nI b) (nI k) = some t' ∧ Sp sm fk fl fr (tx ++ l.map nI) t' := by
  have h5 := hl.2.1
  have ei : ((8 : Int32) * nI b) + nI k = nI (8 * b + k) := by
    simp (disch := omega) only [li_0, li_1, li_2, li_3, li_4, li_5, li_6, li_7, li_8, li_9, li_10, li_11, li_12, li_13, li_14, li_15, li_16, li_20, li_30, li_31, li_32, li_40, li_42, li_45, li_48, li_57, li_58, li_59, li_60, li_64, li_74, li_75, li_81, li_97, li_122, li_124, li_143, li_151, li_159, li_167, li_175, li_200, li_255, li_648, li_650, li_823, li_900, li_999, li_1123, li_1298, li_1363, li_1379, li_2592, li_6571, li_9999, li_65536, li_65537, ng1, ng2, nI_add, pk_mul, remN, divN, inbI, ixN, leN, ltN, eqN, m1E, m1E', m2E, m12, m21, bsm, glE, b2iT, b2iF, if_pos, if_neg, ite_true, ite_false, not_true, not_false_iff, reduceCtorEq]
  have hI : inb (((8 : Int32) * nI b) + nI k) 16 := by
    rw [ei]
    exact inbN (by omega) (by omega)
  have eW : ∀ t, SC sm t → Mo_words t (ix (((8 : Int32) * nI b) + nI k)) = Int64.ofNat (be5 l) := fun t ht => by
    rw [ei, ixN (by omega), ht.1]
    exact hw
  unfold f_X9_spellsWord
  rw [if_neg (show ¬ nI k = (8 : Int32) from fun c => absurd ((nI_eq (b := 8) (by omega) (by omega)).mp c) (by omega)), glE, li_0]
  refine lp (L := fun n i t => f_X9_spellsWord_L17_6 (nI b) (nI k) (fun (s0_3 : MoT) => some (s0_3)) n i t) l.length (fun i t => Sp sm fk fl fr (tx ++ (l.take i).map nI) t) (fun o => ∃ t', o = some t' ∧ Sp sm fk fl fr (tx ++ l.map nI) t') ?_ ?_ 10000 0 t (by omega) (by omega) (by show Sp sm fk fl fr (tx ++ []) t; rw [List.append_nil]; exact h)
  · intro n t h
    rw [List.take_length] at h
    refine ⟨t, ?_, h⟩
    show f_X9_spellsWord_L17_6 (nI b) (nI k) _ (n + 1) (nI l.length) t = _
    rw [f_X9_spellsWord_L17_6]
    exact eb (w_len t (nI b) (nI k) hl hI (eW t h.1)) (if_pos (Int32.le_refl _))
  · intro n i t hi h
    have len := w_len t (nI b) (nI k) hl hI (eW t h.1)
    have lo : f_X9_letterOf t (nI b) (nI k) (nI i) = some (nI (l.getD i 0)) := by
      unfold f_X9_letterOf
      refine (if_pos hI).trans (eb len ?_)
      rw [show (nI l.length - (1 : Int32)) - nI i = nI (l.length - 1 - i) by rw [show nI l.length - (1 : Int32) = nI (l.length - 1) from subN (b := 1) (by omega), subN (by omega)], eW t h.1, w_r hl hi]
    obtain ⟨t', w1, w2⟩ := r_spells h (by rw [List.length_append, List.length_map, List.length_take]; omega) (nI (l.getD i 0))
    refine Or.inr ⟨t', ?_, ?_⟩
    · have hg : l.getD i 0 = l[i] := by rw [List.getD_eq_getElem?_getD, List.getElem?_eq_getElem hi]; rfl
      rw [hg, List.append_assoc] at w2
      rw [List.take_succ_eq_append_getElem hi, List.map_append]
      exact w2
    · show f_X9_spellsWord_L17_6 (nI b) (nI k) _ (n + 1) (nI i) t = f_X9_spellsWord_L17_6 (nI b) (nI k) _ n (nI (i + 1)) t'
      rw [f_X9_spellsWord_L17_6, show nI i + (1 : Int32) = nI (i + 1) from nI_1 i]
      exact eb len ((if_neg (nI_ge hi (by omega))).trans (eb lo (eb w1 rfl)))
