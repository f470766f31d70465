/-! letters of the known words -/
theorem lg0 {m : Nat} (hm : m < 9223372036854775808) : lg_cmp (wN m) (0 : Int64) = 0 ↔ m = 0 := by
  constructor
  · intro h
    refine Classical.byContradiction (fun hne => ?_)
    have ne : wN m ≠ (0 : Int64) := fun e => by
      have e2 : (BitVec.ofNat 64 m).toNat = (BitVec.ofNat 64 0).toNat := congrArg (fun z : Int64 => z.toBitVec.toNat) e
      rw [BitVec.toNat_ofNat, BitVec.toNat_ofNat, Nat.mod_eq_of_lt (by omega)] at e2
      exact hne e2
    unfold lg_cmp at h
    rw [if_neg ne] at h
    split at h
    · exact absurd h (by decide)
    · exact absurd h (by decide)
  · intro h
    rw [h]
    decide
theorem w_len (t : MoT) (p1 p2 : Int32) {l : List Nat} (h : wOK l) (hI : inb (((8 : Int32) * p1) + p2) 16) (hW : Mo_words t (ix (((8 : Int32) * p1) + p2)) = Int64.ofNat (be5 l)) : f_X9_letters t p1 p2 = some (nI l.length) := by
  unfold f_X9_letters
  rw [glE, li_0]
  have h5 := h.2.1
  have hb : be5 l < 1099511627776 := by rw [be_r]; exact le_small h.rev
  have z : ∀ i, i ≤ 5 → (lg_cmp (Mo_words t (ix (((8 : Int32) * p1) + p2)) >>> (((8 : Int32) * nI i).toInt64 &&& 63)) (0 : Int64) = 0 ↔ l.length ≤ i) := fun i hi => by
    rw [hW]
    have e := shJ (n := be5 l) (by omega) i hi
    have e2 := lg0 (m := be5 l / 256 ^ i) (Nat.lt_of_le_of_lt (Nat.div_le_self _ _) (by omega))
    rw [← e] at e2
    rw [show (be5 l / 256 ^ i = 0) = (le5 l.reverse / 256 ^ i = 0) by rw [be_r], le_z l.reverse (fun a ha => by have := h.rev.2.2 a ha; omega) i, List.length_reverse] at e2
    exact e2
  refine lp (L := fun n i (_ : Unit) => f_X9_letters_L2_4 t p1 p2 (fun (x3_2 : Int32) => some (x3_2)) n i) l.length (fun _ _ => True) (fun o => o = some (nI l.length)) ?_ ?_ 10000 0 () (by omega) (by omega) trivial
  · intro n _ _
    show f_X9_letters_L2_4 t p1 p2 (fun (x3_2 : Int32) => some (x3_2)) (n + 1) (nI l.length) = _
    rw [f_X9_letters_L2_4]
    by_cases q : (5 : Int32) ≤ nI l.length
    · exact if_pos q
    · exact (if_neg q).trans ((if_pos hI).trans (if_pos ((z l.length h5).mpr (Nat.le_refl _))))
  · intro n i _ hi _
    refine Or.inr ⟨(), trivial, ?_⟩
    show f_X9_letters_L2_4 t p1 p2 (fun (x3_2 : Int32) => some (x3_2)) (n + 1) (nI i) = f_X9_letters_L2_4 t p1 p2 (fun (x3_2 : Int32) => some (x3_2)) n (nI (i + 1))
    rw [f_X9_letters_L2_4, show nI i + (1 : Int32) = nI (i + 1) from nI_1 i]
    exact (if_neg (nI_ge (b := 5) (by omega) (by omega))).trans ((if_pos hI).trans (if_neg (fun c => absurd ((z i (by omega)).mp c) (by omega))))
theorem let2 (sm : MoT) (w : WdT) {c k b : Nat} (hc : c ≤ 8) (hcnt : Wd_count w = nI c) (hk : k < c) (hb : b ≤ 1) (hw : WR (Wd_packs w k) (Mo_words sm (8 * b + k))) (p3 : Int32) (h3 : ¬ p3 < 0) :
    ∃ v, f_X7_letterAt w (nI k) p3 = some v ∧ ((f_X9_letters (mT sm) (nI b) (nI k)).bind fun r8 => if r8 ≤ p3 then (f_X9_good (mT sm) (0 : Int32)).bind fun r11 => some ((r11.1), (r11.2)) else (f_X9_letterOf (mT sm) (nI b) (nI k) p3).bind fun r13 => (f_X9_good (mT sm) r13).bind fun r15 => some ((r15.1), (r15.2))) = some (v, mG (mT sm)) := by
  obtain ⟨l, hl, e1, e2⟩ := hw
  have h5 := hl.2.1
  have ei : ((8 : Int32) * nI b) + nI k = nI (8 * b + k) := by
    simp (disch := omega) only [li_0, li_1, li_2, li_3, li_4, li_5, li_6, li_7, li_8, li_9, li_10, li_11, li_12, li_13, li_14, li_15, li_16, li_20, li_30, li_31, li_32, li_40, li_42, li_45, li_48, li_57, li_58, li_59, li_60, li_64, li_74, li_75, li_81, li_97, li_122, li_124, li_143, li_151, li_159, li_167, li_175, li_200, li_255, li_648, li_650, li_823, li_900, li_999, li_1123, li_1298, li_1363, li_1379, li_2592, li_6571, li_9999, li_65536, li_65537, ng1, ng2, nI_add, pk_mul, remN, divN, inbI, ixN, leN, ltN, eqN, m1E, m1E', m2E, m12, m21, bsm, glE, b2iT, b2iF, if_pos, if_neg, ite_true, ite_false, not_true, not_false_iff, reduceCtorEq]
  have hI : inb (((8 : Int32) * nI b) + nI k) 16 := by
    rw [ei]
    exact inbN (by omega) (by omega)
  have eW : Mo_words (mT sm) (ix (((8 : Int32) * nI b) + nI k)) = Int64.ofNat (be5 l) := by
    rw [ei, ixN (by omega), words_mT]
    exact e2
  have len := w_len (mT sm) (nI b) (nI k) hl hI eW
  have kn := (knows2 w (nI k) hc hcnt).1 ⟨k, hk, rfl⟩
  have hK : inb (nI k) 8 := inbN (by omega) (by omega)
  have hKx : ix (nI k) = k := ixN (by omega)
  unfold f_X7_letterAt
  rcases pk_ix p3 (n := 5) (by omega) with q | q | ⟨j, hj, rfl⟩
  · exact absurd q h3
  · refine ⟨0, eb kn ((if_neg (by decide)).trans ((if_neg h3).trans (if_neg (Int32.not_lt.mpr q)))), eb len ((if_pos ?_).trans rfl)⟩
    exact Int32.le_trans ((leN (by omega) (by omega)).mpr h5) q
  · refine ⟨nI (l.getD j 0), eb kn ((if_neg (by decide)).trans ((if_neg h3).trans ((if_pos ((ltN (b := 5) (by omega) (by omega)).mpr hj)).trans ((if_pos hK).trans ?_)))), ?_⟩
    · rw [hKx, e1, w_c hl (by omega)]
    · by_cases q : j < l.length
      · have ed : (nI l.length - (1 : Int32)) - nI j = nI (l.length - 1 - j) := by
          rw [show nI l.length - (1 : Int32) = nI (l.length - 1) from subN (b := 1) (by omega), subN (by omega)]
        have lo : f_X9_letterOf (mT sm) (nI b) (nI k) (nI j) = some (nI (l.getD j 0)) := by
          unfold f_X9_letterOf
          refine (if_pos hI).trans (eb len ?_)
          rw [ed, eW, w_r hl q]
        exact eb len ((if_neg (nI_ge q (by omega))).trans (eb lo rfl))
      · refine eb len ((if_pos ((leN (by omega) (by omega)).mpr (by omega))).trans ?_)
        rw [List.getD_eq_getElem?_getD, List.getElem?_eq_none (by omega)]
        rfl
theorem key3 {n kc vc : Nat} {s : OuBT} {sm : MoT} (h : RB n kc vc s sm) (p : Int32) : (∃ j, j < kc ∧ p = nI j ∧ f_X7_knows (Bk_keys (OuB_books s)) p = some 1 ∧ f_X9_isKey (mT sm) p = some 1) ∨ (f_X7_knows (Bk_keys (OuB_books s)) p = some 0 ∧ f_X9_isKey (mT sm) p = some 0) := by
  have nT := h.nT
  obtain ⟨_, _, _, T, _, _, hW, _⟩ := h
  have hk := knows2 (Bk_keys (OuB_books s)) p hW.1 hW.2.2.1
  have g := gTx sm (i := 3) (by omega)
  rw [show Mo_x sm 3 = nI kc from hW.2.2.2.1] at g
  unfold f_X9_isKey
  rcases inP p (c := kc) (by have := hW.1; omega) with ⟨j, hj, rfl, e⟩ | ⟨q, e⟩
  · exact Or.inl ⟨j, hj, rfl, hk.1 ⟨j, hj, rfl⟩, (if_neg nT).trans (eb g (eb e rfl))⟩
  · exact Or.inr ⟨hk.2 q, (if_neg nT).trans (eb g (eb e rfl))⟩
theorem val3 {n kc vc : Nat} {s : OuBT} {sm : MoT} (h : RB n kc vc s sm) (p : Int32) : (∃ j, j < vc ∧ p = nI j ∧ f_X7_knows (Bk_values (OuB_books s)) p = some 1 ∧ f_X9_isValue (mT sm) p = some 1) ∨ (f_X7_knows (Bk_values (OuB_books s)) p = some 0 ∧ f_X9_isValue (mT sm) p = some 0) := by
  have nT := h.nT
  obtain ⟨_, _, _, T, _, _, hW, _⟩ := h
  have hk := knows2 (Bk_values (OuB_books s)) p hW.2.1 hW.2.2.2.2.1
  have g := gTx sm (i := 4) (by omega)
  rw [show Mo_x sm 4 = nI vc from hW.2.2.2.2.2.1] at g
  unfold f_X9_isValue
  rcases inP p (c := vc) (by have := hW.2.1; omega) with ⟨j, hj, rfl, e⟩ | ⟨q, e⟩
  · exact Or.inl ⟨j, hj, rfl, hk.1 ⟨j, hj, rfl⟩, (if_neg nT).trans (eb g (eb e rfl))⟩
  · exact Or.inr ⟨hk.2 q, (if_neg nT).trans (eb g (eb e rfl))⟩
theorem st_letter (n : Nat) (p1 p2 p3 : Int32) : StpR n (fun cs => fc_letter cs p1 p2 p3) (fun sm => f_X9_letter sm p1 p2 p3) := stp1 (fN := fun s => f_X8_letter_N s p1 p2 p3) (fB := fun s => f_X8_letter_B s p1 p2 p3) (fun _ => rfl) (fun _ => rfl) (fun _ _ => rfl)
  (fun sm s h => by
    unfold f_X9_letter
    rcases rng p1 1 (by omega) with ⟨b, hb, rfl, q1, q2⟩ | ⟨q, q'⟩
    · refine fin_n h _ 1 tr1 rfl (eb ((inQ (nI b) (m := 1) (by omega)).1 ⟨b, hb, rfl⟩) ((if_neg (by decide)).trans (eg ?_)))
      by_cases z : nI b = (0 : Int32)
      · exact (if_pos z).trans (eb (nKey h p2) rfl)
      · exact (if_neg z).trans (eb (nVal h p2) rfl)
    · exact fin_n h _ 1 tr1 rfl (eb ((inQ p1 (m := 1) (by omega)).2 q) rfl))
  (fun hn sm s kc vc h => by
    have hh := h
    obtain ⟨_, _, _, T, _, _, hW, _⟩ := hh
    unfold f_X8_letter_B f_X9_letter
    rcases rng p1 1 (by omega) with ⟨b, hb, rfl, q1, q2⟩ | ⟨q, q'⟩
    · have i1 := (inQ (nI b) (m := 1) (by omega)).1 ⟨b, hb, rfl⟩
      have q3 : ¬ (1 : Int32) < nI b := Int32.not_lt.mpr q2
      by_cases z3 : p3 < 0
      · have z4 : ¬ (0 : Int32) ≤ p3 := Int32.not_le.mpr z3
        refine fin_r h _ 1 tr1 ((if_neg q1).trans ((if_neg q3).trans ((if_neg z4).trans rfl))) (eb i1 ((if_neg (by decide)).trans (eg ?_)))
        by_cases z : nI b = (0 : Int32)
        · refine (if_pos z).trans ?_
          rcases key3 h p2 with ⟨j, hj, rfl, e1, e2⟩ | ⟨e1, e2⟩
          · exact eb e2 ((if_neg (by decide)).trans ((if_neg z4).trans rfl))
          · exact eb e2 rfl
        · refine (if_neg z).trans ?_
          rcases val3 h p2 with ⟨j, hj, rfl, e1, e2⟩ | ⟨e1, e2⟩
          · exact eb e2 ((if_neg (by decide)).trans ((if_neg z4).trans rfl))
          · exact eb e2 rfl
      · have z4 : (0 : Int32) ≤ p3 := Int32.not_lt.mp z3
        rcases b with _ | _ | b
        · rcases key3 h p2 with ⟨j, hj, rfl, e1, e2⟩ | ⟨e1, e2⟩
          · obtain ⟨v, w1, w2⟩ := let2 sm (Bk_keys (OuB_books s)) (b := 0) hW.1 hW.2.2.1 hj (by omega) (by rw [show 8 * 0 + j = j by omega]; exact hW.2.2.2.2.2.2.1 j hj) p3 z3
            exact fin_g h v ((if_neg q1).trans ((if_neg q3).trans ((if_pos z4).trans ((if_pos (by decide)).trans (eb e1 ((if_neg (by decide)).trans (eb w1 rfl))))))) (eb i1 ((if_neg (by decide)).trans (eg ((if_pos (by decide)).trans (eb e2 ((if_neg (by decide)).trans ((if_pos z4).trans w2)))))))
          · exact fin_r h _ 1 tr1 ((if_neg q1).trans ((if_neg q3).trans ((if_pos z4).trans ((if_pos (by decide)).trans (eb e1 rfl))))) (eb i1 ((if_neg (by decide)).trans (eg ((if_pos (by decide)).trans (eb e2 rfl)))))
        · rcases val3 h p2 with ⟨j, hj, rfl, e1, e2⟩ | ⟨e1, e2⟩
          · obtain ⟨v, w1, w2⟩ := let2 sm (Bk_values (OuB_books s)) (b := 1) hW.2.1 hW.2.2.2.2.1 hj (by omega) (hW.2.2.2.2.2.2.2 j hj) p3 z3
            exact fin_g h v ((if_neg q1).trans ((if_neg q3).trans ((if_pos z4).trans ((if_neg (by decide)).trans (eb e1 ((if_neg (by decide)).trans (eb w1 rfl))))))) (eb i1 ((if_neg (by decide)).trans (eg ((if_neg (by decide)).trans (eb e2 ((if_neg (by decide)).trans ((if_pos z4).trans w2)))))))
          · exact fin_r h _ 1 tr1 ((if_neg q1).trans ((if_neg q3).trans ((if_pos z4).trans ((if_neg (by decide)).trans (eb e1 rfl))))) (eb i1 ((if_neg (by decide)).trans (eg ((if_neg (by decide)).trans (eb e2 rfl)))))
        · omega
    · have i1 := (inQ p1 (m := 1) (by omega)).2 q
      refine fin_r h _ 1 tr1 ?_ (eb i1 rfl)
      rcases q' with q' | ⟨q', q''⟩
      · exact (if_pos q').trans rfl
      · exact (if_neg q').trans ((if_pos (Int32.not_le.mp q'')).trans rfl))
