/-! desk and more: field rows, a layer at a time -/
theorem zf_trouble_trouble (s : MoT) (v : Int32) : Mo_trouble (Mo_w_trouble s v) = v := rfl
theorem zf_wrongAt_trouble (s : MoT) (v : Int32) : Mo_wrongAt (Mo_w_trouble s v) = Mo_wrongAt s := rfl
theorem zf_x_trouble (s : MoT) (v : Int32) : Mo_x (Mo_w_trouble s v) = Mo_x s := rfl
theorem zf_isThere_trouble (s : MoT) (v : Int32) : Mo_isThere (Mo_w_trouble s v) = Mo_isThere s := rfl
theorem zf_hasImage_trouble (s : MoT) (v : Int32) : Mo_hasImage (Mo_w_trouble s v) = Mo_hasImage s := rfl
theorem zf_tape_trouble (s : MoT) (v : Int32) : Mo_tape (Mo_w_trouble s v) = Mo_tape s := rfl
theorem zf_taped_trouble (s : MoT) (v : Int32) : Mo_taped (Mo_w_trouble s v) = Mo_taped s := rfl
theorem zf_size_trouble (s : MoT) (v : Int32) : Mo_size (Mo_w_trouble s v) = Mo_size s := rfl
theorem zf_fault_trouble (s : MoT) (v : Int32) : Mo_fault (Mo_w_trouble s v) = Mo_fault s := rfl
theorem zf_words_trouble (s : MoT) (v : Int32) : Mo_words (Mo_w_trouble s v) = Mo_words s := rfl
theorem zf_readWords_trouble (s : MoT) (v : Int32) : Mo_readWords (Mo_w_trouble s v) = Mo_readWords s := rfl
theorem zf_readMany_trouble (s : MoT) (v : Int32) : Mo_readMany (Mo_w_trouble s v) = Mo_readMany s := rfl
theorem zf_lineKind_trouble (s : MoT) (v : Int32) : Mo_lineKind (Mo_w_trouble s v) = Mo_lineKind s := rfl
theorem zf_lineSide_trouble (s : MoT) (v : Int32) : Mo_lineSide (Mo_w_trouble s v) = Mo_lineSide s := rfl
theorem zf_lineKey_trouble (s : MoT) (v : Int32) : Mo_lineKey (Mo_w_trouble s v) = Mo_lineKey s := rfl
theorem zf_lineValue_trouble (s : MoT) (v : Int32) : Mo_lineValue (Mo_w_trouble s v) = Mo_lineValue s := rfl
theorem zf_lineMany_trouble (s : MoT) (v : Int32) : Mo_lineMany (Mo_w_trouble s v) = Mo_lineMany s := rfl
theorem zf_lineTime_trouble (s : MoT) (v : Int32) : Mo_lineTime (Mo_w_trouble s v) = Mo_lineTime s := rfl
theorem zf_lines_trouble (s : MoT) (v : Int32) : Mo_lines (Mo_w_trouble s v) = Mo_lines s := rfl
theorem zf_readHow_trouble (s : MoT) (v : Int32) : Mo_readHow (Mo_w_trouble s v) = Mo_readHow s := rfl
theorem zf_readKeep_trouble (s : MoT) (v : Int32) : Mo_readKeep (Mo_w_trouble s v) = Mo_readKeep s := rfl
theorem zf_readLate_trouble (s : MoT) (v : Int32) : Mo_readLate (Mo_w_trouble s v) = Mo_readLate s := rfl
theorem zf_at_trouble (s : MoT) (v : Int32) : Mo_at (Mo_w_trouble s v) = Mo_at s := rfl
theorem zf_trouble_wrongAt (s : MoT) (v : Int32) : Mo_trouble (Mo_w_wrongAt s v) = Mo_trouble s := rfl
theorem zf_wrongAt_wrongAt (s : MoT) (v : Int32) : Mo_wrongAt (Mo_w_wrongAt s v) = v := rfl
theorem zf_x_wrongAt (s : MoT) (v : Int32) : Mo_x (Mo_w_wrongAt s v) = Mo_x s := rfl
theorem zf_isThere_wrongAt (s : MoT) (v : Int32) : Mo_isThere (Mo_w_wrongAt s v) = Mo_isThere s := rfl
theorem zf_hasImage_wrongAt (s : MoT) (v : Int32) : Mo_hasImage (Mo_w_wrongAt s v) = Mo_hasImage s := rfl
theorem zf_tape_wrongAt (s : MoT) (v : Int32) : Mo_tape (Mo_w_wrongAt s v) = Mo_tape s := rfl
theorem zf_taped_wrongAt (s : MoT) (v : Int32) : Mo_taped (Mo_w_wrongAt s v) = Mo_taped s := rfl
theorem zf_size_wrongAt (s : MoT) (v : Int32) : Mo_size (Mo_w_wrongAt s v) = Mo_size s := rfl
theorem zf_fault_wrongAt (s : MoT) (v : Int32) : Mo_fault (Mo_w_wrongAt s v) = Mo_fault s := rfl
theorem zf_words_wrongAt (s : MoT) (v : Int32) : Mo_words (Mo_w_wrongAt s v) = Mo_words s := rfl
theorem zf_readWords_wrongAt (s : MoT) (v : Int32) : Mo_readWords (Mo_w_wrongAt s v) = Mo_readWords s := rfl
theorem zf_readMany_wrongAt (s : MoT) (v : Int32) : Mo_readMany (Mo_w_wrongAt s v) = Mo_readMany s := rfl
theorem zf_lineKind_wrongAt (s : MoT) (v : Int32) : Mo_lineKind (Mo_w_wrongAt s v) = Mo_lineKind s := rfl
theorem zf_lineSide_wrongAt (s : MoT) (v : Int32) : Mo_lineSide (Mo_w_wrongAt s v) = Mo_lineSide s := rfl
theorem zf_lineKey_wrongAt (s : MoT) (v : Int32) : Mo_lineKey (Mo_w_wrongAt s v) = Mo_lineKey s := rfl
theorem zf_lineValue_wrongAt (s : MoT) (v : Int32) : Mo_lineValue (Mo_w_wrongAt s v) = Mo_lineValue s := rfl
theorem zf_lineMany_wrongAt (s : MoT) (v : Int32) : Mo_lineMany (Mo_w_wrongAt s v) = Mo_lineMany s := rfl
theorem zf_lineTime_wrongAt (s : MoT) (v : Int32) : Mo_lineTime (Mo_w_wrongAt s v) = Mo_lineTime s := rfl
theorem zf_lines_wrongAt (s : MoT) (v : Int32) : Mo_lines (Mo_w_wrongAt s v) = Mo_lines s := rfl
theorem zf_readHow_wrongAt (s : MoT) (v : Int32) : Mo_readHow (Mo_w_wrongAt s v) = Mo_readHow s := rfl
theorem zf_readKeep_wrongAt (s : MoT) (v : Int32) : Mo_readKeep (Mo_w_wrongAt s v) = Mo_readKeep s := rfl
theorem zf_readLate_wrongAt (s : MoT) (v : Int32) : Mo_readLate (Mo_w_wrongAt s v) = Mo_readLate s := rfl
theorem zf_at_wrongAt (s : MoT) (v : Int32) : Mo_at (Mo_w_wrongAt s v) = Mo_at s := rfl
theorem zf_trouble_hasImage (s : MoT) (v : Int32) : Mo_trouble (Mo_w_hasImage s v) = Mo_trouble s := rfl
theorem zf_wrongAt_hasImage (s : MoT) (v : Int32) : Mo_wrongAt (Mo_w_hasImage s v) = Mo_wrongAt s := rfl
theorem zf_x_hasImage (s : MoT) (v : Int32) : Mo_x (Mo_w_hasImage s v) = Mo_x s := rfl
theorem zf_isThere_hasImage (s : MoT) (v : Int32) : Mo_isThere (Mo_w_hasImage s v) = Mo_isThere s := rfl
theorem zf_hasImage_hasImage (s : MoT) (v : Int32) : Mo_hasImage (Mo_w_hasImage s v) = v := rfl
theorem zf_tape_hasImage (s : MoT) (v : Int32) : Mo_tape (Mo_w_hasImage s v) = Mo_tape s := rfl
theorem zf_taped_hasImage (s : MoT) (v : Int32) : Mo_taped (Mo_w_hasImage s v) = Mo_taped s := rfl
theorem zf_size_hasImage (s : MoT) (v : Int32) : Mo_size (Mo_w_hasImage s v) = Mo_size s := rfl
theorem zf_fault_hasImage (s : MoT) (v : Int32) : Mo_fault (Mo_w_hasImage s v) = Mo_fault s := rfl
theorem zf_words_hasImage (s : MoT) (v : Int32) : Mo_words (Mo_w_hasImage s v) = Mo_words s := rfl
theorem zf_readWords_hasImage (s : MoT) (v : Int32) : Mo_readWords (Mo_w_hasImage s v) = Mo_readWords s := rfl
theorem zf_readMany_hasImage (s : MoT) (v : Int32) : Mo_readMany (Mo_w_hasImage s v) = Mo_readMany s := rfl
theorem zf_lineKind_hasImage (s : MoT) (v : Int32) : Mo_lineKind (Mo_w_hasImage s v) = Mo_lineKind s := rfl
theorem zf_lineSide_hasImage (s : MoT) (v : Int32) : Mo_lineSide (Mo_w_hasImage s v) = Mo_lineSide s := rfl
theorem zf_lineKey_hasImage (s : MoT) (v : Int32) : Mo_lineKey (Mo_w_hasImage s v) = Mo_lineKey s := rfl
theorem zf_lineValue_hasImage (s : MoT) (v : Int32) : Mo_lineValue (Mo_w_hasImage s v) = Mo_lineValue s := rfl
theorem zf_lineMany_hasImage (s : MoT) (v : Int32) : Mo_lineMany (Mo_w_hasImage s v) = Mo_lineMany s := rfl
theorem zf_lineTime_hasImage (s : MoT) (v : Int32) : Mo_lineTime (Mo_w_hasImage s v) = Mo_lineTime s := rfl
theorem zf_lines_hasImage (s : MoT) (v : Int32) : Mo_lines (Mo_w_hasImage s v) = Mo_lines s := rfl
theorem zf_readHow_hasImage (s : MoT) (v : Int32) : Mo_readHow (Mo_w_hasImage s v) = Mo_readHow s := rfl
theorem zf_readKeep_hasImage (s : MoT) (v : Int32) : Mo_readKeep (Mo_w_hasImage s v) = Mo_readKeep s := rfl
theorem zf_readLate_hasImage (s : MoT) (v : Int32) : Mo_readLate (Mo_w_hasImage s v) = Mo_readLate s := rfl
theorem zf_at_hasImage (s : MoT) (v : Int32) : Mo_at (Mo_w_hasImage s v) = Mo_at s := rfl
theorem zf_trouble_isThere (s : MoT) (v : Int32) : Mo_trouble (Mo_w_isThere s v) = Mo_trouble s := rfl
theorem zf_wrongAt_isThere (s : MoT) (v : Int32) : Mo_wrongAt (Mo_w_isThere s v) = Mo_wrongAt s := rfl
theorem zf_x_isThere (s : MoT) (v : Int32) : Mo_x (Mo_w_isThere s v) = Mo_x s := rfl
theorem zf_isThere_isThere (s : MoT) (v : Int32) : Mo_isThere (Mo_w_isThere s v) = v := rfl
theorem zf_hasImage_isThere (s : MoT) (v : Int32) : Mo_hasImage (Mo_w_isThere s v) = Mo_hasImage s := rfl
theorem zf_tape_isThere (s : MoT) (v : Int32) : Mo_tape (Mo_w_isThere s v) = Mo_tape s := rfl
theorem zf_taped_isThere (s : MoT) (v : Int32) : Mo_taped (Mo_w_isThere s v) = Mo_taped s := rfl
theorem zf_size_isThere (s : MoT) (v : Int32) : Mo_size (Mo_w_isThere s v) = Mo_size s := rfl
theorem zf_fault_isThere (s : MoT) (v : Int32) : Mo_fault (Mo_w_isThere s v) = Mo_fault s := rfl
theorem zf_words_isThere (s : MoT) (v : Int32) : Mo_words (Mo_w_isThere s v) = Mo_words s := rfl
theorem zf_readWords_isThere (s : MoT) (v : Int32) : Mo_readWords (Mo_w_isThere s v) = Mo_readWords s := rfl
theorem zf_readMany_isThere (s : MoT) (v : Int32) : Mo_readMany (Mo_w_isThere s v) = Mo_readMany s := rfl
theorem zf_lineKind_isThere (s : MoT) (v : Int32) : Mo_lineKind (Mo_w_isThere s v) = Mo_lineKind s := rfl
theorem zf_lineSide_isThere (s : MoT) (v : Int32) : Mo_lineSide (Mo_w_isThere s v) = Mo_lineSide s := rfl
theorem zf_lineKey_isThere (s : MoT) (v : Int32) : Mo_lineKey (Mo_w_isThere s v) = Mo_lineKey s := rfl
theorem zf_lineValue_isThere (s : MoT) (v : Int32) : Mo_lineValue (Mo_w_isThere s v) = Mo_lineValue s := rfl
theorem zf_lineMany_isThere (s : MoT) (v : Int32) : Mo_lineMany (Mo_w_isThere s v) = Mo_lineMany s := rfl
theorem zf_lineTime_isThere (s : MoT) (v : Int32) : Mo_lineTime (Mo_w_isThere s v) = Mo_lineTime s := rfl
theorem zf_lines_isThere (s : MoT) (v : Int32) : Mo_lines (Mo_w_isThere s v) = Mo_lines s := rfl
theorem zf_readHow_isThere (s : MoT) (v : Int32) : Mo_readHow (Mo_w_isThere s v) = Mo_readHow s := rfl
theorem zf_readKeep_isThere (s : MoT) (v : Int32) : Mo_readKeep (Mo_w_isThere s v) = Mo_readKeep s := rfl
theorem zf_readLate_isThere (s : MoT) (v : Int32) : Mo_readLate (Mo_w_isThere s v) = Mo_readLate s := rfl
theorem zf_at_isThere (s : MoT) (v : Int32) : Mo_at (Mo_w_isThere s v) = Mo_at s := rfl
theorem zf_trouble_words (s : MoT) (v : Nat → Int64) : Mo_trouble (Mo_w_words s v) = Mo_trouble s := rfl
theorem zf_wrongAt_words (s : MoT) (v : Nat → Int64) : Mo_wrongAt (Mo_w_words s v) = Mo_wrongAt s := rfl
theorem zf_x_words (s : MoT) (v : Nat → Int64) : Mo_x (Mo_w_words s v) = Mo_x s := rfl
theorem zf_isThere_words (s : MoT) (v : Nat → Int64) : Mo_isThere (Mo_w_words s v) = Mo_isThere s := rfl
theorem zf_hasImage_words (s : MoT) (v : Nat → Int64) : Mo_hasImage (Mo_w_words s v) = Mo_hasImage s := rfl
theorem zf_tape_words (s : MoT) (v : Nat → Int64) : Mo_tape (Mo_w_words s v) = Mo_tape s := rfl
theorem zf_taped_words (s : MoT) (v : Nat → Int64) : Mo_taped (Mo_w_words s v) = Mo_taped s := rfl
theorem zf_size_words (s : MoT) (v : Nat → Int64) : Mo_size (Mo_w_words s v) = Mo_size s := rfl
theorem zf_fault_words (s : MoT) (v : Nat → Int64) : Mo_fault (Mo_w_words s v) = Mo_fault s := rfl
theorem zf_words_words (s : MoT) (v : Nat → Int64) : Mo_words (Mo_w_words s v) = v := rfl
theorem zf_readWords_words (s : MoT) (v : Nat → Int64) : Mo_readWords (Mo_w_words s v) = Mo_readWords s := rfl
theorem zf_readMany_words (s : MoT) (v : Nat → Int64) : Mo_readMany (Mo_w_words s v) = Mo_readMany s := rfl
theorem zf_lineKind_words (s : MoT) (v : Nat → Int64) : Mo_lineKind (Mo_w_words s v) = Mo_lineKind s := rfl
theorem zf_lineSide_words (s : MoT) (v : Nat → Int64) : Mo_lineSide (Mo_w_words s v) = Mo_lineSide s := rfl
theorem zf_lineKey_words (s : MoT) (v : Nat → Int64) : Mo_lineKey (Mo_w_words s v) = Mo_lineKey s := rfl
theorem zf_lineValue_words (s : MoT) (v : Nat → Int64) : Mo_lineValue (Mo_w_words s v) = Mo_lineValue s := rfl
theorem zf_lineMany_words (s : MoT) (v : Nat → Int64) : Mo_lineMany (Mo_w_words s v) = Mo_lineMany s := rfl
theorem zf_lineTime_words (s : MoT) (v : Nat → Int64) : Mo_lineTime (Mo_w_words s v) = Mo_lineTime s := rfl
theorem zf_lines_words (s : MoT) (v : Nat → Int64) : Mo_lines (Mo_w_words s v) = Mo_lines s := rfl
theorem zf_readHow_words (s : MoT) (v : Nat → Int64) : Mo_readHow (Mo_w_words s v) = Mo_readHow s := rfl
theorem zf_readKeep_words (s : MoT) (v : Nat → Int64) : Mo_readKeep (Mo_w_words s v) = Mo_readKeep s := rfl
theorem zf_readLate_words (s : MoT) (v : Nat → Int64) : Mo_readLate (Mo_w_words s v) = Mo_readLate s := rfl
theorem zf_at_words (s : MoT) (v : Nat → Int64) : Mo_at (Mo_w_words s v) = Mo_at s := rfl
theorem zf_trouble_size (s : MoT) (v : Int32) : Mo_trouble (Mo_w_size s v) = Mo_trouble s := rfl
theorem zf_wrongAt_size (s : MoT) (v : Int32) : Mo_wrongAt (Mo_w_size s v) = Mo_wrongAt s := rfl
theorem zf_x_size (s : MoT) (v : Int32) : Mo_x (Mo_w_size s v) = Mo_x s := rfl
theorem zf_isThere_size (s : MoT) (v : Int32) : Mo_isThere (Mo_w_size s v) = Mo_isThere s := rfl
theorem zf_hasImage_size (s : MoT) (v : Int32) : Mo_hasImage (Mo_w_size s v) = Mo_hasImage s := rfl
theorem zf_tape_size (s : MoT) (v : Int32) : Mo_tape (Mo_w_size s v) = Mo_tape s := rfl
theorem zf_taped_size (s : MoT) (v : Int32) : Mo_taped (Mo_w_size s v) = Mo_taped s := rfl
theorem zf_size_size (s : MoT) (v : Int32) : Mo_size (Mo_w_size s v) = v := rfl
theorem zf_fault_size (s : MoT) (v : Int32) : Mo_fault (Mo_w_size s v) = Mo_fault s := rfl
theorem zf_words_size (s : MoT) (v : Int32) : Mo_words (Mo_w_size s v) = Mo_words s := rfl
theorem zf_readWords_size (s : MoT) (v : Int32) : Mo_readWords (Mo_w_size s v) = Mo_readWords s := rfl
theorem zf_readMany_size (s : MoT) (v : Int32) : Mo_readMany (Mo_w_size s v) = Mo_readMany s := rfl
theorem zf_lineKind_size (s : MoT) (v : Int32) : Mo_lineKind (Mo_w_size s v) = Mo_lineKind s := rfl
theorem zf_lineSide_size (s : MoT) (v : Int32) : Mo_lineSide (Mo_w_size s v) = Mo_lineSide s := rfl
theorem zf_lineKey_size (s : MoT) (v : Int32) : Mo_lineKey (Mo_w_size s v) = Mo_lineKey s := rfl
theorem zf_lineValue_size (s : MoT) (v : Int32) : Mo_lineValue (Mo_w_size s v) = Mo_lineValue s := rfl
theorem zf_lineMany_size (s : MoT) (v : Int32) : Mo_lineMany (Mo_w_size s v) = Mo_lineMany s := rfl
theorem zf_lineTime_size (s : MoT) (v : Int32) : Mo_lineTime (Mo_w_size s v) = Mo_lineTime s := rfl
theorem zf_lines_size (s : MoT) (v : Int32) : Mo_lines (Mo_w_size s v) = Mo_lines s := rfl
theorem zf_readHow_size (s : MoT) (v : Int32) : Mo_readHow (Mo_w_size s v) = Mo_readHow s := rfl
theorem zf_readKeep_size (s : MoT) (v : Int32) : Mo_readKeep (Mo_w_size s v) = Mo_readKeep s := rfl
theorem zf_readLate_size (s : MoT) (v : Int32) : Mo_readLate (Mo_w_size s v) = Mo_readLate s := rfl
theorem zf_at_size (s : MoT) (v : Int32) : Mo_at (Mo_w_size s v) = Mo_at s := rfl
theorem zf_trouble_taped (s : MoT) (v : Int32) : Mo_trouble (Mo_w_taped s v) = Mo_trouble s := rfl
theorem zf_wrongAt_taped (s : MoT) (v : Int32) : Mo_wrongAt (Mo_w_taped s v) = Mo_wrongAt s := rfl
theorem zf_x_taped (s : MoT) (v : Int32) : Mo_x (Mo_w_taped s v) = Mo_x s := rfl
theorem zf_isThere_taped (s : MoT) (v : Int32) : Mo_isThere (Mo_w_taped s v) = Mo_isThere s := rfl
theorem zf_hasImage_taped (s : MoT) (v : Int32) : Mo_hasImage (Mo_w_taped s v) = Mo_hasImage s := rfl
theorem zf_tape_taped (s : MoT) (v : Int32) : Mo_tape (Mo_w_taped s v) = Mo_tape s := rfl
theorem zf_taped_taped (s : MoT) (v : Int32) : Mo_taped (Mo_w_taped s v) = v := rfl
theorem zf_size_taped (s : MoT) (v : Int32) : Mo_size (Mo_w_taped s v) = Mo_size s := rfl
theorem zf_fault_taped (s : MoT) (v : Int32) : Mo_fault (Mo_w_taped s v) = Mo_fault s := rfl
theorem zf_words_taped (s : MoT) (v : Int32) : Mo_words (Mo_w_taped s v) = Mo_words s := rfl
theorem zf_readWords_taped (s : MoT) (v : Int32) : Mo_readWords (Mo_w_taped s v) = Mo_readWords s := rfl
theorem zf_readMany_taped (s : MoT) (v : Int32) : Mo_readMany (Mo_w_taped s v) = Mo_readMany s := rfl
theorem zf_lineKind_taped (s : MoT) (v : Int32) : Mo_lineKind (Mo_w_taped s v) = Mo_lineKind s := rfl
theorem zf_lineSide_taped (s : MoT) (v : Int32) : Mo_lineSide (Mo_w_taped s v) = Mo_lineSide s := rfl
theorem zf_lineKey_taped (s : MoT) (v : Int32) : Mo_lineKey (Mo_w_taped s v) = Mo_lineKey s := rfl
theorem zf_lineValue_taped (s : MoT) (v : Int32) : Mo_lineValue (Mo_w_taped s v) = Mo_lineValue s := rfl
theorem zf_lineMany_taped (s : MoT) (v : Int32) : Mo_lineMany (Mo_w_taped s v) = Mo_lineMany s := rfl
theorem zf_lineTime_taped (s : MoT) (v : Int32) : Mo_lineTime (Mo_w_taped s v) = Mo_lineTime s := rfl
theorem zf_lines_taped (s : MoT) (v : Int32) : Mo_lines (Mo_w_taped s v) = Mo_lines s := rfl
theorem zf_readHow_taped (s : MoT) (v : Int32) : Mo_readHow (Mo_w_taped s v) = Mo_readHow s := rfl
theorem zf_readKeep_taped (s : MoT) (v : Int32) : Mo_readKeep (Mo_w_taped s v) = Mo_readKeep s := rfl
theorem zf_readLate_taped (s : MoT) (v : Int32) : Mo_readLate (Mo_w_taped s v) = Mo_readLate s := rfl
theorem zf_at_taped (s : MoT) (v : Int32) : Mo_at (Mo_w_taped s v) = Mo_at s := rfl
theorem zf_trouble_thrown (s : MoT) (v : Int32) : Mo_trouble (Mo_w_thrown s v) = Mo_trouble s := rfl
theorem zf_wrongAt_thrown (s : MoT) (v : Int32) : Mo_wrongAt (Mo_w_thrown s v) = Mo_wrongAt s := rfl
theorem zf_x_thrown (s : MoT) (v : Int32) : Mo_x (Mo_w_thrown s v) = Mo_x s := rfl
theorem zf_isThere_thrown (s : MoT) (v : Int32) : Mo_isThere (Mo_w_thrown s v) = Mo_isThere s := rfl
theorem zf_hasImage_thrown (s : MoT) (v : Int32) : Mo_hasImage (Mo_w_thrown s v) = Mo_hasImage s := rfl
theorem zf_tape_thrown (s : MoT) (v : Int32) : Mo_tape (Mo_w_thrown s v) = Mo_tape s := rfl
theorem zf_taped_thrown (s : MoT) (v : Int32) : Mo_taped (Mo_w_thrown s v) = Mo_taped s := rfl
theorem zf_size_thrown (s : MoT) (v : Int32) : Mo_size (Mo_w_thrown s v) = Mo_size s := rfl
theorem zf_fault_thrown (s : MoT) (v : Int32) : Mo_fault (Mo_w_thrown s v) = Mo_fault s := rfl
theorem zf_words_thrown (s : MoT) (v : Int32) : Mo_words (Mo_w_thrown s v) = Mo_words s := rfl
theorem zf_readWords_thrown (s : MoT) (v : Int32) : Mo_readWords (Mo_w_thrown s v) = Mo_readWords s := rfl
theorem zf_readMany_thrown (s : MoT) (v : Int32) : Mo_readMany (Mo_w_thrown s v) = Mo_readMany s := rfl
theorem zf_lineKind_thrown (s : MoT) (v : Int32) : Mo_lineKind (Mo_w_thrown s v) = Mo_lineKind s := rfl
theorem zf_lineSide_thrown (s : MoT) (v : Int32) : Mo_lineSide (Mo_w_thrown s v) = Mo_lineSide s := rfl
theorem zf_lineKey_thrown (s : MoT) (v : Int32) : Mo_lineKey (Mo_w_thrown s v) = Mo_lineKey s := rfl
theorem zf_lineValue_thrown (s : MoT) (v : Int32) : Mo_lineValue (Mo_w_thrown s v) = Mo_lineValue s := rfl
theorem zf_lineMany_thrown (s : MoT) (v : Int32) : Mo_lineMany (Mo_w_thrown s v) = Mo_lineMany s := rfl
theorem zf_lineTime_thrown (s : MoT) (v : Int32) : Mo_lineTime (Mo_w_thrown s v) = Mo_lineTime s := rfl
theorem zf_lines_thrown (s : MoT) (v : Int32) : Mo_lines (Mo_w_thrown s v) = Mo_lines s := rfl
theorem zf_readHow_thrown (s : MoT) (v : Int32) : Mo_readHow (Mo_w_thrown s v) = Mo_readHow s := rfl
theorem zf_readKeep_thrown (s : MoT) (v : Int32) : Mo_readKeep (Mo_w_thrown s v) = Mo_readKeep s := rfl
theorem zf_readLate_thrown (s : MoT) (v : Int32) : Mo_readLate (Mo_w_thrown s v) = Mo_readLate s := rfl
theorem zf_at_thrown (s : MoT) (v : Int32) : Mo_at (Mo_w_thrown s v) = Mo_at s := rfl
theorem zf_trouble_x (s : MoT) (v : Nat → Int32) : Mo_trouble (Mo_w_x s v) = Mo_trouble s := rfl
theorem zf_wrongAt_x (s : MoT) (v : Nat → Int32) : Mo_wrongAt (Mo_w_x s v) = Mo_wrongAt s := rfl
theorem zf_x_x (s : MoT) (v : Nat → Int32) : Mo_x (Mo_w_x s v) = v := rfl
theorem zf_isThere_x (s : MoT) (v : Nat → Int32) : Mo_isThere (Mo_w_x s v) = Mo_isThere s := rfl
theorem zf_hasImage_x (s : MoT) (v : Nat → Int32) : Mo_hasImage (Mo_w_x s v) = Mo_hasImage s := rfl
theorem zf_tape_x (s : MoT) (v : Nat → Int32) : Mo_tape (Mo_w_x s v) = Mo_tape s := rfl
theorem zf_taped_x (s : MoT) (v : Nat → Int32) : Mo_taped (Mo_w_x s v) = Mo_taped s := rfl
theorem zf_size_x (s : MoT) (v : Nat → Int32) : Mo_size (Mo_w_x s v) = Mo_size s := rfl
theorem zf_fault_x (s : MoT) (v : Nat → Int32) : Mo_fault (Mo_w_x s v) = Mo_fault s := rfl
theorem zf_words_x (s : MoT) (v : Nat → Int32) : Mo_words (Mo_w_x s v) = Mo_words s := rfl
theorem zf_readWords_x (s : MoT) (v : Nat → Int32) : Mo_readWords (Mo_w_x s v) = Mo_readWords s := rfl
theorem zf_readMany_x (s : MoT) (v : Nat → Int32) : Mo_readMany (Mo_w_x s v) = Mo_readMany s := rfl
theorem zf_lineKind_x (s : MoT) (v : Nat → Int32) : Mo_lineKind (Mo_w_x s v) = Mo_lineKind s := rfl
theorem zf_lineSide_x (s : MoT) (v : Nat → Int32) : Mo_lineSide (Mo_w_x s v) = Mo_lineSide s := rfl
theorem zf_lineKey_x (s : MoT) (v : Nat → Int32) : Mo_lineKey (Mo_w_x s v) = Mo_lineKey s := rfl
theorem zf_lineValue_x (s : MoT) (v : Nat → Int32) : Mo_lineValue (Mo_w_x s v) = Mo_lineValue s := rfl
theorem zf_lineMany_x (s : MoT) (v : Nat → Int32) : Mo_lineMany (Mo_w_x s v) = Mo_lineMany s := rfl
theorem zf_lineTime_x (s : MoT) (v : Nat → Int32) : Mo_lineTime (Mo_w_x s v) = Mo_lineTime s := rfl
theorem zf_lines_x (s : MoT) (v : Nat → Int32) : Mo_lines (Mo_w_x s v) = Mo_lines s := rfl
theorem zf_readHow_x (s : MoT) (v : Nat → Int32) : Mo_readHow (Mo_w_x s v) = Mo_readHow s := rfl
theorem zf_readKeep_x (s : MoT) (v : Nat → Int32) : Mo_readKeep (Mo_w_x s v) = Mo_readKeep s := rfl
theorem zf_readLate_x (s : MoT) (v : Nat → Int32) : Mo_readLate (Mo_w_x s v) = Mo_readLate s := rfl
theorem zf_at_x (s : MoT) (v : Nat → Int32) : Mo_at (Mo_w_x s v) = Mo_at s := rfl
theorem pu_trouble (t : MoT) (p : Nat) (u : UT) (q : QT) : Mo_trouble (pu t p u q) = Mo_trouble t := rfl
theorem pu_wrongAt (t : MoT) (p : Nat) (u : UT) (q : QT) : Mo_wrongAt (pu t p u q) = Mo_wrongAt t := rfl
theorem pu_x (t : MoT) (p : Nat) (u : UT) (q : QT) : Mo_x (pu t p u q) = Mo_x t := rfl
theorem pu_isThere (t : MoT) (p : Nat) (u : UT) (q : QT) : Mo_isThere (pu t p u q) = Mo_isThere t := rfl
theorem pu_hasImage (t : MoT) (p : Nat) (u : UT) (q : QT) : Mo_hasImage (pu t p u q) = Mo_hasImage t := rfl
theorem pu_tape (t : MoT) (p : Nat) (u : UT) (q : QT) : Mo_tape (pu t p u q) = Mo_tape t := rfl
theorem pu_taped (t : MoT) (p : Nat) (u : UT) (q : QT) : Mo_taped (pu t p u q) = Mo_taped t := rfl
theorem pu_size (t : MoT) (p : Nat) (u : UT) (q : QT) : Mo_size (pu t p u q) = Mo_size t := rfl
theorem pu_fault (t : MoT) (p : Nat) (u : UT) (q : QT) : Mo_fault (pu t p u q) = (0 : Int32) := rfl
theorem pu_words (t : MoT) (p : Nat) (u : UT) (q : QT) : Mo_words (pu t p u q) = Mo_words t := rfl
theorem pu_readWords (t : MoT) (p : Nat) (u : UT) (q : QT) : Mo_readWords (pu t p u q) = q.1 := rfl
theorem pu_readMany (t : MoT) (p : Nat) (u : UT) (q : QT) : Mo_readMany (pu t p u q) = q.2.1 := rfl
theorem pu_lineKind (t : MoT) (p : Nat) (u : UT) (q : QT) : Mo_lineKind (pu t p u q) = yK_ q.2.2 := rfl
theorem pu_lineSide (t : MoT) (p : Nat) (u : UT) (q : QT) : Mo_lineSide (pu t p u q) = yS_ q.2.2 := rfl
theorem pu_lineKey (t : MoT) (p : Nat) (u : UT) (q : QT) : Mo_lineKey (pu t p u q) = yY_ q.2.2 := rfl
theorem pu_lineValue (t : MoT) (p : Nat) (u : UT) (q : QT) : Mo_lineValue (pu t p u q) = yV_ q.2.2 := rfl
theorem pu_lineMany (t : MoT) (p : Nat) (u : UT) (q : QT) : Mo_lineMany (pu t p u q) = yM_ q.2.2 := rfl
theorem pu_lineTime (t : MoT) (p : Nat) (u : UT) (q : QT) : Mo_lineTime (pu t p u q) = yT_ q.2.2 := rfl
theorem pu_lines (t : MoT) (p : Nat) (u : UT) (q : QT) : Mo_lines (pu t p u q) = yN_ q.2.2 := rfl
theorem pu_readHow (t : MoT) (p : Nat) (u : UT) (q : QT) : Mo_readHow (pu t p u q) = yH_ q.2.2 := rfl
theorem pu_readKeep (t : MoT) (p : Nat) (u : UT) (q : QT) : Mo_readKeep (pu t p u q) = yP_ q.2.2 := rfl
theorem pu_readLate (t : MoT) (p : Nat) (u : UT) (q : QT) : Mo_readLate (pu t p u q) = yL_ q.2.2 := rfl
theorem pu_at (t : MoT) (p : Nat) (u : UT) (q : QT) : Mo_at (pu t p u q) = nI u.2.1 := rfl
theorem c_bclear (bk : BkT) {h kp lt : Nat} {y : Nat → Int32} (wd : Nat → Int64) (hh : h < 4) (hk : kp ≤ 999) (hl : lt ≤ 999) (y0 : y (6571 * 0) = nI h) (y1 : y (6571 * 0 + 1) = nI kp) (y2 : y (6571 * 0 + 2) = nI lt) (yz : ∀ i, 3 ≤ i → i < 6571 → y (6571 * 0 + i) = nI 0) : ∃ bk', f_X1_clear bk (nI h) (nI kp) (nI lt) = some bk' ∧ RBk 0 0 0 0 0 bk' wd y := by
  obtain ⟨bd', b1, b2, b3, b4, b5, b6⟩ := c_clear (Bk_board bk) (nI h)
  have hBd := (RBd.new (b := 0) (h := h) (bd := bd') (y := y) hh b2 b3 b4 b5 b6 y0 yz).1
  obtain ⟨c1, c2, c3, c4, c5, c6, c7, c8⟩ := b6
  refine ⟨_, eb (a := Wd_w_count (Bk_keys bk) 0) rfl (eb (a := Wd_w_count (Bk_values bk) 0) rfl (eb b1 (eb (a := Sb_w_seen (Bk_subscribers bk) (fun j => if j < 4 then (-1 : Int32) else Sb_seen (Bk_subscribers bk) j)) (eb (c_fill 4 (Sb_seen (Bk_subscribers bk)) (-1 : Int32) (by omega)) rfl) (eb (c_fill 8 (Bk_latest bk) (-2 : Int32) (by omega)) (eb (c_fill 8 (Bk_lapses bk) (0 : Int32) (by omega)) rfl))))), ⟨h, hBd⟩, ⟨by omega, by omega, rfl, yz 3 (by omega) (by omega), rfl, yz 4 (by omega) (by omega), fun k hk => absurd hk (Nat.not_lt_zero _), fun k hk => absurd hk (Nat.not_lt_zero _)⟩, ⟨0, Nat.le_refl _, c7, yz 12 (by omega) (by omega), by rw [if_pos rfl]; exact c8⟩, fun k hk => Or.inl ⟨yz _ (by omega) (by omega), if_pos hk, fun s v hs hv => b2 _ (by omega)⟩, ⟨⟨kp, hk, rfl, y1⟩, ⟨lt, hl, rfl, y2⟩, ⟨0, by omega, rfl, yz 5 (by omega) (by omega)⟩, (yz 7 (by omega) (by omega)).symm, (yz 8 (by omega) (by omega)).symm, fun k hk => (if_pos hk).trans (yz (159 + k) (by omega) (by omega)).symm⟩, ⟨fun s k v hs hk hv g => absurd (b2 _ (by omega)) g, fun k l r hk hl hr g => absurd (yz _ (by omega) (by omega)) g⟩, ⟨0, by omega, rfl, yz 13 (by omega) (by omega), fun j hj => absurd hj (Nat.not_lt_zero _)⟩, fun w hw => Or.inl ⟨if_pos hw, yz _ (by omega) (by omega)⟩, fun i hi => by rw [show Bd_nets bd' i = nI 0 from b2 i hi]; exact ⟨by decide, by decide⟩⟩
/-- a text that is sound: the object afterwards -/
theorem fin_do {n kc vc T' : Nat} {s9 : OuBT} {m : MoT} {bk' : BkT} {W : Nat → Int64} {x' : Nat → Int32} (hT : T' ≤ 960 * (n + 1)) (hR : RBk 0 kc vc T' (360 * (n + 1)) bk' W x') (tp : TB (Rd_tape (OuB_reader s9)) m) (l0 : Tp_length (Rd_tape (OuB_reader s9)) = nI 0) (t0 : Mo_taped m = nI 0) (f0 : OuB_fault s9 = nI 0) (mf : Mo_fault m = nI 0) (it : Mo_isThere m = nI 1) :
    RB (n + 1) kc vc (OuB_w_trouble (OuB_w_books s9 bk') 0) (mG (mo (Mo_w_words m W) x')) ∧ Mo_hasImage (mG (mo (Mo_w_words m W) x')) = Mo_hasImage m ∧ Mo_words (mG (mo (Mo_w_words m W) x')) = W ∧ Mo_x (mG (mo (Mo_w_words m W) x')) = x' := by
  have e1 : Mo_x (mG (mo (Mo_w_words m W) x')) = x' := (x_mG _).trans (mo_x _ _)
  have e2 : Mo_words (mG (mo (Mo_w_words m W) x')) = W := (words_mG _).trans ((q_words_x _ _).trans (zf_words_words _ _))
  have e3 : Mo_trouble (mG (mo (Mo_w_words m W) x')) = 0 := trouble_mG _
  have e4 : Mo_wrongAt (mG (mo (Mo_w_words m W) x')) = m1 := wrongAt_mG _
  have e5 : Mo_tape (mG (mo (Mo_w_words m W) x')) = Mo_tape m := (tape_mG _).trans ((q_tape_x _ _).trans (zf_tape_words _ _))
  have e6 : Mo_taped (mG (mo (Mo_w_words m W) x')) = Mo_taped m := (taped_mG _).trans ((q_taped_x _ _).trans (zf_taped_words _ _))
  have e7 : Mo_isThere (mG (mo (Mo_w_words m W) x')) = Mo_isThere m := (isThere_mG _).trans ((q_isThere_x _ _).trans (zf_isThere_words _ _))
  have e8 : Mo_hasImage (mG (mo (Mo_w_words m W) x')) = Mo_hasImage m := (hasImage_mG _).trans ((q_hasImage_x _ _).trans (zf_hasImage_words _ _))
  have e9 : Mo_fault (mG (mo (Mo_w_words m W) x')) = Mo_fault m := (fault_mG _).trans ((q_fault_x _ _).trans (zf_fault_words _ _))
  generalize mG (mo (Mo_w_words m W) x') = sm' at e1 e2 e3 e4 e5 e6 e7 e8 e9 ⊢
  refine ⟨⟨⟨⟨0, by omega, l0, by rw [e6]; exact t0⟩, fun i hi => by rw [e5]; exact tp i hi⟩, ⟨e3, by rw [e9, mf]; exact f0.symm, e4⟩, by rw [e7]; exact it, T', hT, ?_⟩, e8, e2, e1⟩
  rw [e1, e2]
  exact hR
/-- a text that is faulty: the reference afterwards -/
theorem de_f {sm S : MoT} {rd : RdT} {k : Nat} (hD : De (bs (mT sm) (nI k)) rd S) {sm' : MoT} (e : sm' = Mo_w_wrongAt (Mo_w_trouble S (4 : Int32)) (Mo_at S)) : Mo_trouble sm' = 4 ∧ Mo_fault sm' = Rd_fault rd ∧ Mo_wrongAt sm' = Rd_place rd ∧ Mo_words sm' = Mo_words sm ∧ Mo_tape sm' = Mo_tape sm ∧ Mo_taped sm' = nI 0 ∧ Mo_isThere sm' = Mo_isThere sm ∧ Mo_hasImage sm' = Mo_hasImage sm ∧ Mo_x sm' = Mo_x sm := by
  obtain ⟨_, _, sp, nu, w, q, g3⟩ := hD
  subst g3
  subst e
  refine ⟨(zf_trouble_wrongAt _ _).trans (zf_trouble_trouble _ _), (zf_fault_wrongAt _ _).trans ((zf_fault_trouble _ _).trans (ps_fault _ _ _ _ _ _ _ _)), (zf_wrongAt_wrongAt _ _).trans (ps_at _ _ _ _ _ _ _ _), ?_, ?_, ?_, ?_, ?_, ?_⟩
  · exact (zf_words_wrongAt _ _).trans ((zf_words_trouble _ _).trans ((ps_words _ _ _ _ _ _ _ _).trans ((zf_words_size _ _).trans ((zf_words_taped _ _).trans (words_mT _)))))
  · exact (zf_tape_wrongAt _ _).trans ((zf_tape_trouble _ _).trans ((ps_tape _ _ _ _ _ _ _ _).trans ((zf_tape_size _ _).trans ((zf_tape_taped _ _).trans (tape_mT _)))))
  · exact (zf_taped_wrongAt _ _).trans ((zf_taped_trouble _ _).trans ((ps_taped _ _ _ _ _ _ _ _).trans ((zf_taped_size _ _).trans (zf_taped_taped _ _))))
  · exact (zf_isThere_wrongAt _ _).trans ((zf_isThere_trouble _ _).trans ((ps_isThere _ _ _ _ _ _ _ _).trans ((zf_isThere_size _ _).trans ((zf_isThere_taped _ _).trans (isThere_mT _)))))
  · exact (zf_hasImage_wrongAt _ _).trans ((zf_hasImage_trouble _ _).trans ((ps_hasImage _ _ _ _ _ _ _ _).trans ((zf_hasImage_size _ _).trans ((zf_hasImage_taped _ _).trans (hasImage_mT _)))))
  · exact (zf_x_wrongAt _ _).trans ((zf_x_trouble _ _).trans ((ps_x _ _ _ _ _ _ _ _).trans ((zf_x_size _ _).trans ((zf_x_taped _ _).trans (x_mT _)))))
/-- what a sound text leaves of the reference before its lines are done -/
theorem pu_f (sm : MoT) (k p : Nat) (u : UT) (q : QT) : Mo_words (pu (bs (mT sm) (nI k)) p u q) = Mo_words sm ∧ Mo_tape (pu (bs (mT sm) (nI k)) p u q) = Mo_tape sm ∧ Mo_taped (pu (bs (mT sm) (nI k)) p u q) = nI 0 ∧ Mo_isThere (pu (bs (mT sm) (nI k)) p u q) = Mo_isThere sm ∧ Mo_hasImage (pu (bs (mT sm) (nI k)) p u q) = Mo_hasImage sm ∧ Mo_x (pu (bs (mT sm) (nI k)) p u q) = Mo_x sm :=
  ⟨(pu_words _ _ _ _).trans ((zf_words_size _ _).trans ((zf_words_taped _ _).trans (words_mT _))), (pu_tape _ _ _ _).trans ((zf_tape_size _ _).trans ((zf_tape_taped _ _).trans (tape_mT _))), (pu_taped _ _ _ _).trans ((zf_taped_size _ _).trans (zf_taped_taped _ _)), (pu_isThere _ _ _ _).trans ((zf_isThere_size _ _).trans ((zf_isThere_taped _ _).trans (isThere_mT _))), (pu_hasImage _ _ _ _).trans ((zf_hasImage_size _ _).trans ((zf_hasImage_taped _ _).trans (hasImage_mT _))), (pu_x _ _ _ _).trans ((zf_x_size _ _).trans ((zf_x_taped _ _).trans (x_mT _)))⟩
/-- the shelf's side where words may come -/
def KW (kc vc : Nat) (s : OuBT) (sm : MoT) (s' : OuBT) (sm' : MoT) : Prop := OuB_isKept s' = OuB_isKept s ∧ Mo_hasImage sm' = Mo_hasImage sm ∧ (∀ k, k < kc → Mo_words sm' k = Mo_words sm k) ∧ (∀ k, k < vc → Mo_words sm' (8 + k) = Mo_words sm (8 + k)) ∧ ∀ i, 13142 ≤ i → i < 19713 → Mo_x sm' i = Mo_x sm i
theorem KS.kw {kc vc : Nat} {s s' : OuBT} {sm sm' : MoT} (h : KS s sm s' sm') : KW kc vc s sm s' sm' := ⟨h.1, h.2.1, fun k _ => congrFun h.2.2.1 k, fun k _ => congrFun h.2.2.1 (8 + k), h.2.2.2⟩
theorem Sh.kw {n kc vc kc2 vc2 : Nat} {s s' : OuBT} {h : BkT} {sm sm' : MoT} (hS : Sh n kc vc (OuB_isKept s) h sm) (k : KW kc vc s sm s' sm') (h1 : kc ≤ kc2) (h2 : vc ≤ vc2) : Sh (n + 1) kc2 vc2 (OuB_isKept s') h sm' := by
  obtain ⟨k1, k2, k3, k4, k5⟩ := k
  rcases hS with ⟨a, b⟩ | ⟨a, b, kc', vc', T', c1, c2, c3, c4⟩
  · exact Or.inl ⟨by rw [k1]; exact a, by rw [k2]; exact b⟩
  · exact Or.inr ⟨by rw [k1]; exact a, by rw [k2]; exact b, kc', vc', T', by omega, by omega, by omega, ((c4.bank (fun i h1 h2 => k5 i (by omega) (by omega))).wd' (fun k hk => k3 k (by omega)) (fun k hk => k4 k (by omega))).mono (by omega)⟩
/-- the class's object when a text was read -/
def tk9 (s : OuBT) (rd : RdT) : OuBT := OuB_w_place (OuB_w_fault (OuB_w_reader (OuB_w_reader s rd) (Rd_w_tape rd (Tp_w_length (Rd_tape rd) (0 : Int32)))) (Rd_fault rd)) (Rd_place rd)
def tk9N (s : OuNT) (rd : RdT) : OuNT := OuN_w_place (OuN_w_fault (OuN_w_reader (OuN_w_reader s rd) (Rd_w_tape rd (Tp_w_length (Rd_tape rd) (0 : Int32)))) (Rd_fault rd)) (Rd_place rd)
theorem fin_fa {n kc vc : Nat} {s : OuBT} {sm S : MoT} {rd : RdT} {k : Nat} (h : RB n kc vc s sm) (hD : De (bs (mT sm) (nI k)) rd S) : RB (n + 1) kc vc (OuB_w_trouble (tk9 s rd) 4) (Mo_w_wrongAt (Mo_w_trouble S (4 : Int32)) (Mo_at S)) ∧ KS s sm (OuB_w_trouble (tk9 s rd) 4) (Mo_w_wrongAt (Mo_w_trouble S (4 : Int32)) (Mo_at S)) := by
  have hf := de_f hD rfl
  have hT := hD.1
  generalize Mo_w_wrongAt (Mo_w_trouble S (4 : Int32)) (Mo_at S) = sm' at hf ⊢
  obtain ⟨e1, e2, e3, e4, e5, e6, e7, e8, e9⟩ := hf
  obtain ⟨h1, h2, h3, T, h5, h6⟩ := h
  refine ⟨⟨⟨⟨0, by omega, rfl, e6⟩, fun i hi => ?_⟩, ⟨e1, e2, e3⟩, by rw [e7]; exact h3, T, by omega, ?_⟩, rfl, e8, e4, fun i _ _ => congrFun e9 i⟩
  · have a := hT i hi
    rw [show Mo_tape (bs (mT sm) (nI k)) = Mo_tape sm from (zf_tape_size _ _).trans ((zf_tape_taped _ _).trans (tape_mT _))] at a
    rw [e5]
    exact a
  · rw [e4, e9]
    exact h6.mono (by omega)
theorem fin_fN {s : OuNT} {sm S : MoT} {rd : RdT} {k : Nat} (h : RN s sm) (hD : De (bs (mT sm) (nI k)) rd S) : RN (OuN_w_trouble (tk9N s rd) 4) (Mo_w_wrongAt (Mo_w_trouble S (4 : Int32)) (Mo_at S)) := by
  have hf := de_f hD rfl
  have hT := hD.1
  generalize Mo_w_wrongAt (Mo_w_trouble S (4 : Int32)) (Mo_at S) = sm' at hf ⊢
  obtain ⟨e1, e2, e3, e4, e5, e6, e7, e8, e9⟩ := hf
  obtain ⟨h1, h2, h3, h4, h5⟩ := h
  refine ⟨⟨⟨0, by omega, rfl, e6⟩, fun i hi => ?_⟩, ⟨e1, e2, e3⟩, h3, by rw [e7]; exact h4, by rw [e8]; exact h5⟩
  have a := hT i hi
  rw [show Mo_tape (bs (mT sm) (nI k)) = Mo_tape sm from (zf_tape_size _ _).trans ((zf_tape_taped _ _).trans (tape_mT _))] at a
  rw [e5]
  exact a
