/-! a row spelt -/
theorem q_x_spelt (s : MoT) (v : Nat → Int32) : Mo_x (Mo_w_spelt s v) = Mo_x s := rfl
theorem q_words_spelt (s : MoT) (v : Nat → Int32) : Mo_words (Mo_w_spelt s v) = Mo_words s := rfl
theorem q_tape_spelt (s : MoT) (v : Nat → Int32) : Mo_tape (Mo_w_spelt s v) = Mo_tape s := rfl
theorem q_taped_spelt (s : MoT) (v : Nat → Int32) : Mo_taped (Mo_w_spelt s v) = Mo_taped s := rfl
theorem q_isThere_spelt (s : MoT) (v : Nat → Int32) : Mo_isThere (Mo_w_spelt s v) = Mo_isThere s := rfl
theorem q_hasImage_spelt (s : MoT) (v : Nat → Int32) : Mo_hasImage (Mo_w_spelt s v) = Mo_hasImage s := rfl
theorem q_fault_spelt (s : MoT) (v : Nat → Int32) : Mo_fault (Mo_w_spelt s v) = Mo_fault s := rfl
theorem q_foundKey_spelt (s : MoT) (v : Nat → Int32) : Mo_foundKey (Mo_w_spelt s v) = Mo_foundKey s := rfl
theorem q_foundLeft_spelt (s : MoT) (v : Nat → Int32) : Mo_foundLeft (Mo_w_spelt s v) = Mo_foundLeft s := rfl
theorem q_foundRight_spelt (s : MoT) (v : Nat → Int32) : Mo_foundRight (Mo_w_spelt s v) = Mo_foundRight s := rfl
theorem q_speltMany_spelt (s : MoT) (v : Nat → Int32) : Mo_speltMany (Mo_w_spelt s v) = Mo_speltMany s := rfl
theorem q_x_speltMany (s : MoT) (v : Int32) : Mo_x (Mo_w_speltMany s v) = Mo_x s := rfl
theorem q_words_speltMany (s : MoT) (v : Int32) : Mo_words (Mo_w_speltMany s v) = Mo_words s := rfl
theorem q_tape_speltMany (s : MoT) (v : Int32) : Mo_tape (Mo_w_speltMany s v) = Mo_tape s := rfl
theorem q_taped_speltMany (s : MoT) (v : Int32) : Mo_taped (Mo_w_speltMany s v) = Mo_taped s := rfl
theorem q_isThere_speltMany (s : MoT) (v : Int32) : Mo_isThere (Mo_w_speltMany s v) = Mo_isThere s := rfl
theorem q_hasImage_speltMany (s : MoT) (v : Int32) : Mo_hasImage (Mo_w_speltMany s v) = Mo_hasImage s := rfl
theorem q_fault_speltMany (s : MoT) (v : Int32) : Mo_fault (Mo_w_speltMany s v) = Mo_fault s := rfl
theorem q_foundKey_speltMany (s : MoT) (v : Int32) : Mo_foundKey (Mo_w_speltMany s v) = Mo_foundKey s := rfl
theorem q_foundLeft_speltMany (s : MoT) (v : Int32) : Mo_foundLeft (Mo_w_speltMany s v) = Mo_foundLeft s := rfl
theorem q_foundRight_speltMany (s : MoT) (v : Int32) : Mo_foundRight (Mo_w_speltMany s v) = Mo_foundRight s := rfl
theorem q_spelt_speltMany (s : MoT) (v : Int32) : Mo_spelt (Mo_w_speltMany s v) = Mo_spelt s := rfl
theorem q_spelt_spelt (s : MoT) (v : Nat → Int32) : Mo_spelt (Mo_w_spelt s v) = v := rfl
theorem q_speltMany_speltMany (s : MoT) (v : Int32) : Mo_speltMany (Mo_w_speltMany s v) = v := rfl
def mP (s : MoT) (o : Nat → Int32) (m : Int32) : MoT := Mo_w_speltMany (Mo_w_spelt s o) m
theorem x_mP (s : MoT) (o : Nat → Int32) (m : Int32) : Mo_x (mP s o m) = Mo_x s := (q_x_speltMany _ _).trans (q_x_spelt _ _)
theorem words_mP (s : MoT) (o : Nat → Int32) (m : Int32) : Mo_words (mP s o m) = Mo_words s := (q_words_speltMany _ _).trans (q_words_spelt _ _)
theorem tape_mP (s : MoT) (o : Nat → Int32) (m : Int32) : Mo_tape (mP s o m) = Mo_tape s := (q_tape_speltMany _ _).trans (q_tape_spelt _ _)
theorem taped_mP (s : MoT) (o : Nat → Int32) (m : Int32) : Mo_taped (mP s o m) = Mo_taped s := (q_taped_speltMany _ _).trans (q_taped_spelt _ _)
theorem isThere_mP (s : MoT) (o : Nat → Int32) (m : Int32) : Mo_isThere (mP s o m) = Mo_isThere s := (q_isThere_speltMany _ _).trans (q_isThere_spelt _ _)
theorem hasImage_mP (s : MoT) (o : Nat → Int32) (m : Int32) : Mo_hasImage (mP s o m) = Mo_hasImage s := (q_hasImage_speltMany _ _).trans (q_hasImage_spelt _ _)
theorem fault_mP (s : MoT) (o : Nat → Int32) (m : Int32) : Mo_fault (mP s o m) = Mo_fault s := (q_fault_speltMany _ _).trans (q_fault_spelt _ _)
theorem foundKey_mP (s : MoT) (o : Nat → Int32) (m : Int32) : Mo_foundKey (mP s o m) = Mo_foundKey s := (q_foundKey_speltMany _ _).trans (q_foundKey_spelt _ _)
theorem foundLeft_mP (s : MoT) (o : Nat → Int32) (m : Int32) : Mo_foundLeft (mP s o m) = Mo_foundLeft s := (q_foundLeft_speltMany _ _).trans (q_foundLeft_spelt _ _)
theorem foundRight_mP (s : MoT) (o : Nat → Int32) (m : Int32) : Mo_foundRight (mP s o m) = Mo_foundRight s := (q_foundRight_speltMany _ _).trans (q_foundRight_spelt _ _)
theorem spelt_mP (s : MoT) (o : Nat → Int32) (m : Int32) : Mo_spelt (mP s o m) = o := (q_spelt_speltMany _ _).trans (q_spelt_spelt _ _)
theorem speltMany_mP (s : MoT) (o : Nat → Int32) (m : Int32) : Mo_speltMany (mP s o m) = m := q_speltMany_speltMany _ _
/-- what is spelt so far, on both sides -/
def Sp (sm : MoT) (k l r : Int32) (tx : List Int32) (t : MoT) : Prop := SC sm t ∧ Mo_x t = Mo_x sm ∧ Mo_foundKey t = k ∧ Mo_foundLeft t = l ∧ Mo_foundRight t = r ∧ Mo_speltMany t = nI tx.length ∧ ∀ j, j < tx.length → Mo_spelt t j = tx.getD j 0
theorem r_spells {sm t : MoT} {k l r : Int32} {tx : List Int32} (h : Sp sm k l r tx t) (hl : tx.length < 64) (v : Int32) : ∃ t', f_X9_spells t v = some t' ∧ Sp sm k l r (tx ++ [v]) t' := by
  obtain ⟨h1, h2, h3, h4, h5, h6, h7⟩ := h
  refine ⟨mP t (upd (Mo_spelt t) tx.length v) (nI (tx.length + 1)), ?_, ?_⟩
  · unfold f_X9_spells
    rw [h6, ixN (by omega), show nI tx.length + (1 : Int32) = nI (tx.length + 1) from nI_1 _]
    exact if_pos (inbN hl (by omega))
  · refine ⟨⟨(words_mP _ _ _).trans h1.1, (tape_mP _ _ _).trans h1.2.1, (taped_mP _ _ _).trans h1.2.2.1, (isThere_mP _ _ _).trans h1.2.2.2.1, (hasImage_mP _ _ _).trans h1.2.2.2.2.1, (fault_mP _ _ _).trans h1.2.2.2.2.2⟩, (x_mP _ _ _).trans h2, (foundKey_mP _ _ _).trans h3, (foundLeft_mP _ _ _).trans h4, (foundRight_mP _ _ _).trans h5, ?_, fun j hj => ?_⟩
    · rw [speltMany_mP, List.length_append]
      rfl
    · rw [spelt_mP]
      rw [List.length_append] at hj
      have hj : j < tx.length + 1 := hj
      by_cases q : j = tx.length
      · rw [ue q, q, List.getD_eq_getElem?_getD, List.getElem?_append_right (Nat.le_refl _), Nat.sub_self]
        rfl
      · rw [un q, h7 j (by omega), List.getD_eq_getElem?_getD, List.getD_eq_getElem?_getD, List.getElem?_append_left (by omega)]
theorem f_ch1 {tx : List Int32} (hl : tx.length < 34) {c : Int32} (hc : ¬ (255 : Int32) < c) : f_ch c tx = some (tx ++ [c.toInt8.toInt32]) := if_pos ⟨hc, hl⟩
