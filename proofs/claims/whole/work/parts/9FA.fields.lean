/-! fields of the reference behind its small changes, a layer at a time -/
def mG (sm : MoT) : MoT := Mo_w_wrongAt (Mo_w_trouble sm (0 : Int32)) (-1 : Int32)
def mR (sm : MoT) (w : Int32) : MoT := Mo_w_wrongAt (Mo_w_trouble sm w) (-1 : Int32)
def mT (sm : MoT) : MoT := Mo_w_thrown sm (0 : Int32)
theorem q_x_thrown (s : MoT) (v : Int32) : Mo_x (Mo_w_thrown s v) = Mo_x s := rfl
theorem q_x_trouble (s : MoT) (v : Int32) : Mo_x (Mo_w_trouble s v) = Mo_x s := rfl
theorem q_x_wrongAt (s : MoT) (v : Int32) : Mo_x (Mo_w_wrongAt s v) = Mo_x s := rfl
theorem x_mG (s : MoT) : Mo_x (mG s) = Mo_x s := (q_x_wrongAt _ _).trans (q_x_trouble s _)
theorem x_mR (s : MoT) (w : Int32) : Mo_x (mR s w) = Mo_x s := (q_x_wrongAt _ _).trans (q_x_trouble s _)
theorem x_mT (s : MoT) : Mo_x (mT s) = Mo_x s := q_x_thrown s _
theorem q_words_thrown (s : MoT) (v : Int32) : Mo_words (Mo_w_thrown s v) = Mo_words s := rfl
theorem q_words_trouble (s : MoT) (v : Int32) : Mo_words (Mo_w_trouble s v) = Mo_words s := rfl
theorem q_words_wrongAt (s : MoT) (v : Int32) : Mo_words (Mo_w_wrongAt s v) = Mo_words s := rfl
theorem q_words_x (s : MoT) (v : Nat → Int32) : Mo_words (mo s v) = Mo_words s := rfl
theorem words_mG (s : MoT) : Mo_words (mG s) = Mo_words s := (q_words_wrongAt _ _).trans (q_words_trouble s _)
theorem words_mR (s : MoT) (w : Int32) : Mo_words (mR s w) = Mo_words s := (q_words_wrongAt _ _).trans (q_words_trouble s _)
theorem words_mT (s : MoT) : Mo_words (mT s) = Mo_words s := q_words_thrown s _
theorem q_tape_thrown (s : MoT) (v : Int32) : Mo_tape (Mo_w_thrown s v) = Mo_tape s := rfl
theorem q_tape_trouble (s : MoT) (v : Int32) : Mo_tape (Mo_w_trouble s v) = Mo_tape s := rfl
theorem q_tape_wrongAt (s : MoT) (v : Int32) : Mo_tape (Mo_w_wrongAt s v) = Mo_tape s := rfl
theorem q_tape_x (s : MoT) (v : Nat → Int32) : Mo_tape (mo s v) = Mo_tape s := rfl
theorem tape_mG (s : MoT) : Mo_tape (mG s) = Mo_tape s := (q_tape_wrongAt _ _).trans (q_tape_trouble s _)
theorem tape_mR (s : MoT) (w : Int32) : Mo_tape (mR s w) = Mo_tape s := (q_tape_wrongAt _ _).trans (q_tape_trouble s _)
theorem tape_mT (s : MoT) : Mo_tape (mT s) = Mo_tape s := q_tape_thrown s _
theorem q_taped_thrown (s : MoT) (v : Int32) : Mo_taped (Mo_w_thrown s v) = Mo_taped s := rfl
theorem q_taped_trouble (s : MoT) (v : Int32) : Mo_taped (Mo_w_trouble s v) = Mo_taped s := rfl
theorem q_taped_wrongAt (s : MoT) (v : Int32) : Mo_taped (Mo_w_wrongAt s v) = Mo_taped s := rfl
theorem q_taped_x (s : MoT) (v : Nat → Int32) : Mo_taped (mo s v) = Mo_taped s := rfl
theorem taped_mG (s : MoT) : Mo_taped (mG s) = Mo_taped s := (q_taped_wrongAt _ _).trans (q_taped_trouble s _)
theorem taped_mR (s : MoT) (w : Int32) : Mo_taped (mR s w) = Mo_taped s := (q_taped_wrongAt _ _).trans (q_taped_trouble s _)
theorem taped_mT (s : MoT) : Mo_taped (mT s) = Mo_taped s := q_taped_thrown s _
theorem q_isThere_thrown (s : MoT) (v : Int32) : Mo_isThere (Mo_w_thrown s v) = Mo_isThere s := rfl
theorem q_isThere_trouble (s : MoT) (v : Int32) : Mo_isThere (Mo_w_trouble s v) = Mo_isThere s := rfl
theorem q_isThere_wrongAt (s : MoT) (v : Int32) : Mo_isThere (Mo_w_wrongAt s v) = Mo_isThere s := rfl
theorem q_isThere_x (s : MoT) (v : Nat → Int32) : Mo_isThere (mo s v) = Mo_isThere s := rfl
theorem isThere_mG (s : MoT) : Mo_isThere (mG s) = Mo_isThere s := (q_isThere_wrongAt _ _).trans (q_isThere_trouble s _)
theorem isThere_mR (s : MoT) (w : Int32) : Mo_isThere (mR s w) = Mo_isThere s := (q_isThere_wrongAt _ _).trans (q_isThere_trouble s _)
theorem isThere_mT (s : MoT) : Mo_isThere (mT s) = Mo_isThere s := q_isThere_thrown s _
theorem q_hasImage_thrown (s : MoT) (v : Int32) : Mo_hasImage (Mo_w_thrown s v) = Mo_hasImage s := rfl
theorem q_hasImage_trouble (s : MoT) (v : Int32) : Mo_hasImage (Mo_w_trouble s v) = Mo_hasImage s := rfl
theorem q_hasImage_wrongAt (s : MoT) (v : Int32) : Mo_hasImage (Mo_w_wrongAt s v) = Mo_hasImage s := rfl
theorem q_hasImage_x (s : MoT) (v : Nat → Int32) : Mo_hasImage (mo s v) = Mo_hasImage s := rfl
theorem hasImage_mG (s : MoT) : Mo_hasImage (mG s) = Mo_hasImage s := (q_hasImage_wrongAt _ _).trans (q_hasImage_trouble s _)
theorem hasImage_mR (s : MoT) (w : Int32) : Mo_hasImage (mR s w) = Mo_hasImage s := (q_hasImage_wrongAt _ _).trans (q_hasImage_trouble s _)
theorem hasImage_mT (s : MoT) : Mo_hasImage (mT s) = Mo_hasImage s := q_hasImage_thrown s _
theorem q_fault_thrown (s : MoT) (v : Int32) : Mo_fault (Mo_w_thrown s v) = Mo_fault s := rfl
theorem q_fault_trouble (s : MoT) (v : Int32) : Mo_fault (Mo_w_trouble s v) = Mo_fault s := rfl
theorem q_fault_wrongAt (s : MoT) (v : Int32) : Mo_fault (Mo_w_wrongAt s v) = Mo_fault s := rfl
theorem q_fault_x (s : MoT) (v : Nat → Int32) : Mo_fault (mo s v) = Mo_fault s := rfl
theorem fault_mG (s : MoT) : Mo_fault (mG s) = Mo_fault s := (q_fault_wrongAt _ _).trans (q_fault_trouble s _)
theorem fault_mR (s : MoT) (w : Int32) : Mo_fault (mR s w) = Mo_fault s := (q_fault_wrongAt _ _).trans (q_fault_trouble s _)
theorem fault_mT (s : MoT) : Mo_fault (mT s) = Mo_fault s := q_fault_thrown s _
theorem q_trouble_thrown (s : MoT) (v : Int32) : Mo_trouble (Mo_w_thrown s v) = Mo_trouble s := rfl
theorem q_trouble_wrongAt (s : MoT) (v : Int32) : Mo_trouble (Mo_w_wrongAt s v) = Mo_trouble s := rfl
theorem q_trouble_x (s : MoT) (v : Nat → Int32) : Mo_trouble (mo s v) = Mo_trouble s := rfl
theorem trouble_mT (s : MoT) : Mo_trouble (mT s) = Mo_trouble s := q_trouble_thrown s _
theorem q_wrongAt_thrown (s : MoT) (v : Int32) : Mo_wrongAt (Mo_w_thrown s v) = Mo_wrongAt s := rfl
theorem q_wrongAt_trouble (s : MoT) (v : Int32) : Mo_wrongAt (Mo_w_trouble s v) = Mo_wrongAt s := rfl
theorem q_wrongAt_x (s : MoT) (v : Nat → Int32) : Mo_wrongAt (mo s v) = Mo_wrongAt s := rfl
theorem wrongAt_mT (s : MoT) : Mo_wrongAt (mT s) = Mo_wrongAt s := q_wrongAt_thrown s _
theorem trouble_mG (s : MoT) : Mo_trouble (mG s) = 0 := (q_trouble_wrongAt _ _).trans rfl
theorem trouble_mR (s : MoT) (w : Int32) : Mo_trouble (mR s w) = w := (q_trouble_wrongAt _ _).trans rfl
theorem wrongAt_mG (s : MoT) : Mo_wrongAt (mG s) = m1 := rfl
theorem wrongAt_mR (s : MoT) (w : Int32) : Mo_wrongAt (mR s w) = m1 := rfl
