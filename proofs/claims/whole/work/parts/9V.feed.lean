/-! feed -/
theorem q_x_tape (s : MoT) (v : Nat → Int32) : Mo_x (Mo_w_tape s v) = Mo_x s := rfl
theorem q_x_taped (s : MoT) (v : Int32) : Mo_x (Mo_w_taped s v) = Mo_x s := rfl
theorem q_words_tape (s : MoT) (v : Nat → Int32) : Mo_words (Mo_w_tape s v) = Mo_words s := rfl
theorem q_words_taped (s : MoT) (v : Int32) : Mo_words (Mo_w_taped s v) = Mo_words s := rfl
theorem q_isThere_tape (s : MoT) (v : Nat → Int32) : Mo_isThere (Mo_w_tape s v) = Mo_isThere s := rfl
theorem q_isThere_taped (s : MoT) (v : Int32) : Mo_isThere (Mo_w_taped s v) = Mo_isThere s := rfl
theorem q_hasImage_tape (s : MoT) (v : Nat → Int32) : Mo_hasImage (Mo_w_tape s v) = Mo_hasImage s := rfl
theorem q_hasImage_taped (s : MoT) (v : Int32) : Mo_hasImage (Mo_w_taped s v) = Mo_hasImage s := rfl
theorem q_fault_tape (s : MoT) (v : Nat → Int32) : Mo_fault (Mo_w_tape s v) = Mo_fault s := rfl
theorem q_fault_taped (s : MoT) (v : Int32) : Mo_fault (Mo_w_taped s v) = Mo_fault s := rfl
theorem q_trouble_tape (s : MoT) (v : Nat → Int32) : Mo_trouble (Mo_w_tape s v) = Mo_trouble s := rfl
theorem q_trouble_taped (s : MoT) (v : Int32) : Mo_trouble (Mo_w_taped s v) = Mo_trouble s := rfl
theorem q_wrongAt_tape (s : MoT) (v : Nat → Int32) : Mo_wrongAt (Mo_w_tape s v) = Mo_wrongAt s := rfl
theorem q_wrongAt_taped (s : MoT) (v : Int32) : Mo_wrongAt (Mo_w_taped s v) = Mo_wrongAt s := rfl
theorem q_tape_taped (s : MoT) (v : Int32) : Mo_tape (Mo_w_taped s v) = Mo_tape s := rfl
theorem q_taped_tape (s : MoT) (v : Nat → Int32) : Mo_taped (Mo_w_tape s v) = Mo_taped s := rfl
theorem q_tape_tape (s : MoT) (v : Nat → Int32) : Mo_tape (Mo_w_tape s v) = v := rfl
theorem q_taped_taped (s : MoT) (v : Int32) : Mo_taped (Mo_w_taped s v) = v := rfl
def mtp (s : MoT) (f : Nat → Int32) (t : Int32) : MoT := Mo_w_taped (Mo_w_tape s f) t
theorem x_mtp (s : MoT) (g : Nat → Int32) (t : Int32) : Mo_x (mtp s g t) = Mo_x s := (q_x_taped _ _).trans (q_x_tape _ _)
theorem words_mtp (s : MoT) (g : Nat → Int32) (t : Int32) : Mo_words (mtp s g t) = Mo_words s := (q_words_taped _ _).trans (q_words_tape _ _)
theorem isThere_mtp (s : MoT) (g : Nat → Int32) (t : Int32) : Mo_isThere (mtp s g t) = Mo_isThere s := (q_isThere_taped _ _).trans (q_isThere_tape _ _)
theorem hasImage_mtp (s : MoT) (g : Nat → Int32) (t : Int32) : Mo_hasImage (mtp s g t) = Mo_hasImage s := (q_hasImage_taped _ _).trans (q_hasImage_tape _ _)
theorem fault_mtp (s : MoT) (g : Nat → Int32) (t : Int32) : Mo_fault (mtp s g t) = Mo_fault s := (q_fault_taped _ _).trans (q_fault_tape _ _)
theorem trouble_mtp (s : MoT) (g : Nat → Int32) (t : Int32) : Mo_trouble (mtp s g t) = Mo_trouble s := (q_trouble_taped _ _).trans (q_trouble_tape _ _)
theorem wrongAt_mtp (s : MoT) (g : Nat → Int32) (t : Int32) : Mo_wrongAt (mtp s g t) = Mo_wrongAt s := (q_wrongAt_taped _ _).trans (q_wrongAt_tape _ _)
theorem tape_mtp (s : MoT) (g : Nat → Int32) (t : Int32) : Mo_tape (mtp s g t) = g := (q_tape_taped _ _).trans (q_tape_tape _ _)
theorem taped_mtp (s : MoT) (g : Nat → Int32) (t : Int32) : Mo_taped (mtp s g t) = t := q_taped_taped _ _
def bq (v : Int32) (r : Nat) : Int32 := vp_nar .byte (v >>> (((24 : Int32) - ((8 : Int32) * nI r)) &&& 31)).toInt8.toInt32
theorem bq_by (v : Int32) (r : Nat) : isBy (bq v r) := by
  unfold bq isBy
  rw [vp_nar_byte, Int8.toInt_toInt32]
  exact ⟨Int8.le_toInt _, by have := Int8.toInt_lt ((v >>> (((24 : Int32) - ((8 : Int32) * nI r)) &&& 31)).toInt8.toInt32.toInt8); omega⟩
theorem bq0 (v : Int32) : vp_nar .byte (v >>> ((24 : Int32) &&& 31)).toInt8.toInt32 = bq v 0 := congrArg (fun z => vp_nar .byte (v >>> z).toInt8.toInt32) (by decide)
theorem bq1 (v : Int32) : vp_nar .byte (v >>> ((16 : Int32) &&& 31)).toInt8.toInt32 = bq v 1 := congrArg (fun z => vp_nar .byte (v >>> z).toInt8.toInt32) (by decide)
theorem bq2 (v : Int32) : vp_nar .byte (v >>> ((8 : Int32) &&& 31)).toInt8.toInt32 = bq v 2 := congrArg (fun z => vp_nar .byte (v >>> z).toInt8.toInt32) (by decide)
theorem bq3 (v : Int32) : vp_nar .byte v.toInt8.toInt32 = bq v 3 := by
  unfold bq
  rw [show ((24 : Int32) - ((8 : Int32) * nI 3)) &&& 31 = 0 by decide, Int32.shiftRight_zero]
def BV (a b c d e : Int32) (q : Nat) : Int32 := bq (if q < 4 then a else if q < 8 then b else if q < 12 then c else if q < 16 then d else e) (q % 4)
theorem c_put (tp : TpT) (v : Int32) {t : Nat} (ht : t + 4 ≤ 900) (hl : Tp_length tp = nI t) : ∃ tp', f_X6_put tp v = some tp' ∧ Tp_length tp' = nI (t + 4) ∧ ∀ j, Tp_bytes tp' j = if t ≤ j ∧ j < t + 4 then bq v (j - t) else Tp_bytes tp j := by
  have h0 : f_X6_hasRoomFor tp (4 : Int32) = some 1 := by
    unfold f_X6_hasRoomFor
    rw [hl, show nI t + (4 : Int32) = nI (t + 4) from nI_add t 4]
    exact if_neg (nI_nlt (a := 900) ht (by omega))
  refine ⟨Tp_w_length (Tp_w_bytes tp (upd (upd (upd (upd (Tp_bytes tp) t (bq v 0)) (t + 1) (bq v 1)) (t + 2) (bq v 2)) (t + 3) (bq v 3))) (nI (t + 4)), ?_, rfl, fun j => ?_⟩
  · unfold f_X6_put
    rw [hl, show nI t + (1 : Int32) = nI (t + 1) from nI_1 t, show nI t + (2 : Int32) = nI (t + 2) from nI_add t 2, show nI t + (3 : Int32) = nI (t + 3) from nI_add t 3, show nI t + (4 : Int32) = nI (t + 4) from nI_add t 4, ixN (by omega), ixN (by omega), ixN (by omega), ixN (by omega), bq0, bq1, bq2, bq3]
    exact eb h0 ((if_neg (by decide)).trans ((if_pos (inbN (by omega) (by omega))).trans ((if_pos (inbN (by omega) (by omega))).trans ((if_pos (inbN (by omega) (by omega))).trans (if_pos (inbN (by omega) (by omega)))))))
  · show upd (upd (upd (upd (Tp_bytes tp) t (bq v 0)) (t + 1) (bq v 1)) (t + 2) (bq v 2)) (t + 3) (bq v 3) j = _
    by_cases q3 : j = t + 3
    · rw [ue q3, if_pos (by omega), show j - t = 3 by omega]
    · rw [un q3]
      by_cases q2 : j = t + 2
      · rw [ue q2, if_pos (by omega), show j - t = 2 by omega]
      · rw [un q2]
        by_cases q1 : j = t + 1
        · rw [ue q1, if_pos (by omega), show j - t = 1 by omega]
        · rw [un q1]
          by_cases q0 : j = t
          · rw [ue q0, if_pos (by omega), show j - t = 0 by omega]
          · rw [un q0, if_neg (by omega)]
/-- five numbers on the tape, on both sides -/
theorem feed2 {tp : TpT} {sm : MoT} (h : RTape tp sm) (a b c d e : Int32) :
    (∃ tp5 t f, f_X6_hasRoomFor tp 20 = some 1 ∧ ((f_X6_put tp a).bind fun r4 => (f_X6_put r4 b).bind fun r6 => (f_X6_put r6 c).bind fun r8 => (f_X6_put r8 d).bind fun r10 => f_X6_put r10 e) = some tp5 ∧ Tp_length tp5 = nI t ∧ f_X9_feed sm a b c d e = some (nI t, mtp (mT sm) f (nI t)) ∧ RTape tp5 (mtp (mT sm) f (nI t))) ∨
    (f_X6_hasRoomFor tp 20 = some 0 ∧ f_X9_feed sm a b c d e = some (-1, mT sm)) := by
  obtain ⟨⟨t, h1, h2, h3⟩, h4⟩ := h
  unfold f_X9_feed
  rw [h3, show nI t + (20 : Int32) = nI (t + 20) from nI_add t 20]
  by_cases q : t + 20 ≤ 900
  · refine Or.inl ?_
    obtain ⟨t1, a1, a2, a3⟩ := c_put tp a (t := t) (by omega) h2
    obtain ⟨t2, b1, b2, b3⟩ := c_put t1 b (t := t + 4) (by omega) a2
    obtain ⟨t3, c1, c2, c3⟩ := c_put t2 c (t := t + 4 + 4) (by omega) b2
    obtain ⟨t4, d1, d2, d3⟩ := c_put t3 d (t := t + 4 + 4 + 4) (by omega) c2
    obtain ⟨t5, e1, e2, e3⟩ := c_put t4 e (t := t + 4 + 4 + 4 + 4) (by omega) d2
    have hb : ∀ j, Tp_bytes t5 j = if t ≤ j ∧ j < t + 20 then BV a b c d e (j - t) else Tp_bytes tp j := by
      intro j
      rw [e3, d3, c3, b3, a3]
      unfold BV
      by_cases g : t ≤ j ∧ j < t + 20
      · rw [if_pos g]
        by_cases g1 : j - t < 4
        · rw [if_neg (by omega), if_neg (by omega), if_neg (by omega), if_neg (by omega), if_pos (by omega), if_pos g1]
          congr 1
          omega
        · by_cases g2 : j - t < 8
          · rw [if_neg (by omega), if_neg (by omega), if_neg (by omega), if_pos (by omega), if_neg g1, if_pos g2]
            congr 1
            omega
          · by_cases g3 : j - t < 12
            · rw [if_neg (by omega), if_neg (by omega), if_pos (by omega), if_neg g1, if_neg g2, if_pos g3]
              congr 1
              omega
            · by_cases g4 : j - t < 16
              · rw [if_neg (by omega), if_pos (by omega), if_neg g1, if_neg g2, if_neg g3, if_pos g4]
                congr 1
                omega
              · rw [if_pos (by omega), if_neg g1, if_neg g2, if_neg g3, if_neg g4]
                congr 1
                omega
      · rw [if_neg g, if_neg (by omega), if_neg (by omega), if_neg (by omega), if_neg (by omega), if_neg (by omega)]
    refine ⟨t5, t + 20, fun j => if t ≤ j ∧ j < t + 20 then BV a b c d e (j - t) else Mo_tape sm j, ?_, eb a1 (eb b1 (eb c1 (eb d1 e1))), e2, (if_pos (nI_le q (by omega))).trans (eg ?_), ?_⟩
    · unfold f_X6_hasRoomFor
      rw [h2, show nI t + (20 : Int32) = nI (t + 20) from nI_add t 20]
      exact if_neg (nI_nlt (a := 900) q (by omega))
    · have main := lpc (L := fun n i s => f_X9_feed_L23_6 a b c d e (fun (s0_3 : MoT) => some ((Mo_taped s0_3), s0_3)) n i s) (K := fun (s0_3 : MoT) => some ((Mo_taped s0_3), s0_3)) 20 (fun k => mtp (mT sm) (fun j => if t ≤ j ∧ j < t + k then BV a b c d e (j - t) else Mo_tape sm j) (nI (t + k))) (fuel := 10000) ?_ ?_ (by omega)
      · have m0 : mtp (mT sm) (fun j => if t ≤ j ∧ j < t + 0 then BV a b c d e (j - t) else Mo_tape sm j) (nI (t + 0)) = mT sm := by
          have g1 : (fun j => if t ≤ j ∧ j < t + 0 then BV a b c d e (j - t) else Mo_tape sm j) = Mo_tape (mT sm) := by
            rw [tape_mT]
            funext j
            rw [if_neg (by omega)]
          have g2 : nI (t + 0) = Mo_taped (mT sm) := by
            rw [taped_mT]
            exact h3.symm
          rw [g1, g2]
          rfl
        simp only [m0, taped_mtp] at main
        exact main
      · intro n
        show f_X9_feed_L23_6 a b c d e _ (n + 1) (nI 20) _ = _
        rw [f_X9_feed_L23_6]
        exact if_pos (by decide)
      · intro n k hk
        have es : upd (fun j => if t ≤ j ∧ j < t + k then BV a b c d e (j - t) else Mo_tape sm j) (t + k) (BV a b c d e k) = (fun j => if t ≤ j ∧ j < t + (k + 1) then BV a b c d e (j - t) else Mo_tape sm j) := by
          funext j
          by_cases g : j = t + k
          · rw [ue g, if_pos (by omega), show j - t = k by omega]
          · rw [un g]
            by_cases g2 : t ≤ j ∧ j < t + k
            · rw [if_pos g2, if_pos (by omega)]
            · rw [if_neg g2, if_neg (by omega)]
        have er : irem (nI k) (4 : Int32) = nI (k % 4) := remN (d := 4) (by omega) (by omega) (by omega)
        show f_X9_feed_L23_6 a b c d e (fun (s0_3 : MoT) => some ((Mo_taped s0_3), s0_3)) (n + 1) (nI k) (mtp (mT sm) (fun j => if t ≤ j ∧ j < t + k then BV a b c d e (j - t) else Mo_tape sm j) (nI (t + k))) = f_X9_feed_L23_6 a b c d e (fun (s0_3 : MoT) => some ((Mo_taped s0_3), s0_3)) n (nI (k + 1)) (mtp (mT sm) (fun j => if t ≤ j ∧ j < t + (k + 1) then BV a b c d e (j - t) else Mo_tape sm j) (nI (t + (k + 1))))
        have tail : ∀ v, v = (if k < 4 then a else if k < 8 then b else if k < 12 then c else if k < 16 then d else e) → (if inb (nI (t + k)) 900 then f_X9_feed_L23_6 a b c d e (fun (s0_3 : MoT) => some ((Mo_taped s0_3), s0_3)) n (nI (k + 1)) (Mo_w_taped (Mo_w_tape (mtp (mT sm) (fun j => if t ≤ j ∧ j < t + k then BV a b c d e (j - t) else Mo_tape sm j) (nI (t + k))) (upd (fun j => if t ≤ j ∧ j < t + k then BV a b c d e (j - t) else Mo_tape sm j) (t + k) (vp_nar .byte (v >>> (((24 : Int32) - ((8 : Int32) * nI (k % 4))) &&& 31)).toInt8.toInt32))) (nI (t + (k + 1)))) else none) = f_X9_feed_L23_6 a b c d e (fun (s0_3 : MoT) => some ((Mo_taped s0_3), s0_3)) n (nI (k + 1)) (mtp (mT sm) (fun j => if t ≤ j ∧ j < t + (k + 1) then BV a b c d e (j - t) else Mo_tape sm j) (nI (t + (k + 1)))) := by
          intro v hv
          rw [if_pos (inbN (by omega) (by omega))]
          have ev : vp_nar .byte (v >>> (((24 : Int32) - ((8 : Int32) * nI (k % 4))) &&& 31)).toInt8.toInt32 = BV a b c d e k := by rw [hv]; rfl
          rw [ev, es]
          rfl
        rw [f_X9_feed_L23_6, taped_mtp, tape_mtp, er, ixN (by omega), show nI k + (1 : Int32) = nI (k + 1) from nI_1 k, show nI (t + k) + (1 : Int32) = nI (t + (k + 1)) from nI_1 _]
        refine (if_neg (nI_ge hk (by omega))).trans (eg ?_)
        by_cases g1 : k < 4
        · exact (if_neg (nI_ge (b := 4) g1 (by omega))).trans (tail _ (by rw [if_pos g1]))
        · by_cases g2 : k < 8
          · exact (if_pos (nI_le (a := 4) (by omega) (by omega))).trans ((if_neg (nI_ge (b := 8) g2 (by omega))).trans (tail _ (by rw [if_neg g1, if_pos g2])))
          · by_cases g3 : k < 12
            · exact (if_pos (nI_le (a := 4) (by omega) (by omega))).trans ((if_pos (nI_le (a := 8) (by omega) (by omega))).trans ((if_neg (nI_ge (b := 12) g3 (by omega))).trans (tail _ (by rw [if_neg g1, if_neg g2, if_pos g3]))))
            · by_cases g4 : k < 16
              · exact (if_pos (nI_le (a := 4) (by omega) (by omega))).trans ((if_pos (nI_le (a := 8) (by omega) (by omega))).trans ((if_pos (nI_le (a := 12) (by omega) (by omega))).trans ((if_neg (nI_ge (b := 16) g4 (by omega))).trans (tail _ (by rw [if_neg g1, if_neg g2, if_neg g3, if_pos g4])))))
              · exact (if_pos (nI_le (a := 4) (by omega) (by omega))).trans ((if_pos (nI_le (a := 8) (by omega) (by omega))).trans ((if_pos (nI_le (a := 12) (by omega) (by omega))).trans ((if_pos (nI_le (a := 16) (by omega) (by omega))).trans (tail _ (by rw [if_neg g1, if_neg g2, if_neg g3, if_neg g4])))))
    · refine ⟨⟨t + 20, q, e2, taped_mtp _ _ _⟩, fun i hi => ?_⟩
      rw [tape_mtp]
      show Tp_bytes t5 i = (if t ≤ i ∧ i < t + 20 then BV a b c d e (i - t) else Mo_tape sm i) ∧ isBy (Tp_bytes t5 i)
      rw [hb i]
      by_cases g : t ≤ i ∧ i < t + 20
      · rw [if_pos g, if_pos g]
        exact ⟨rfl, bq_by _ _⟩
      · rw [if_neg g, if_neg g]
        exact h4 i hi
  · refine Or.inr ⟨?_, if_neg (nI_ge (b := t + 20) (a := 900) (by omega) (by omega))⟩
    unfold f_X6_hasRoomFor
    rw [h2, show nI t + (20 : Int32) = nI (t + 20) from nI_add t 20]
    exact if_pos (nI_lt (a := 900) (by omega) (by omega))
theorem st_feed (n : Nat) (p1 p2 p3 p4 p5 : Int32) : StpR n (fun cs => fc_feed cs p1 p2 p3 p4 p5) (fun sm => f_X9_feed sm p1 p2 p3 p4 p5) := stp1 (fN := fun s => f_X8_feed_N s p1 p2 p3 p4 p5) (fB := fun s => f_X8_feed_B s p1 p2 p3 p4 p5) (fun _ => rfl) (fun _ => rfl) (fun _ _ => rfl)
  (fun sm s h => by
    unfold f_X8_feed_N
    rcases feed2 h.1 p1 p2 p3 p4 p5 with ⟨tp5, t, f, a1, a2, a3, a4, a5⟩ | ⟨a1, a2⟩
    · refine ⟨nI t, OuN_w_reader s (Rd_w_tape (OuN_reader s) tp5), _, eb a1 ((if_neg (by decide)).trans ?_), a4, a5, ⟨(trouble_mtp _ _ _).trans ((trouble_mT _).trans h.2.1.1), (fault_mtp _ _ _).trans ((fault_mT _).trans h.2.1.2.1), (wrongAt_mtp _ _ _).trans ((wrongAt_mT _).trans h.2.1.2.2)⟩, h.2.2.1, (isThere_mtp _ _ _).trans ((isThere_mT _).trans h.2.2.2.1), (hasImage_mtp _ _ _).trans ((hasImage_mT _).trans h.2.2.2.2)⟩
      obtain ⟨x4, b1, a2⟩ := gbd a2
      obtain ⟨x6, b2, a2⟩ := gbd a2
      obtain ⟨x8, b3, a2⟩ := gbd a2
      obtain ⟨x10, b4, a2⟩ := gbd a2
      refine eb b1 (eb b2 (eb b3 (eb b4 (eb a2 ?_))))
      rw [a3]
    · exact ⟨-1, s, mT sm, eb a1 rfl, a2, h.th⟩)
  (fun hn sm s kc vc h => by
    unfold f_X8_feed_B
    rcases feed2 h.1 p1 p2 p3 p4 p5 with ⟨tp5, t, f, a1, a2, a3, a4, a5⟩ | ⟨a1, a2⟩
    · obtain ⟨h1, h2, h3, T, h5, h6⟩ := h
      refine ⟨nI t, OuB_w_reader s (Rd_w_tape (OuB_reader s) tp5), _, eb a1 ((if_neg (by decide)).trans ?_), a4, ⟨a5, ⟨(trouble_mtp _ _ _).trans ((trouble_mT _).trans h2.1), (fault_mtp _ _ _).trans ((fault_mT _).trans h2.2.1), (wrongAt_mtp _ _ _).trans ((wrongAt_mT _).trans h2.2.2)⟩, (isThere_mtp _ _ _).trans ((isThere_mT _).trans h3), T, by omega, ?_⟩, rfl, (hasImage_mtp _ _ _).trans (hasImage_mT _), (words_mtp _ _ _).trans (words_mT _), fun i _ _ => congrFun ((x_mtp _ _ _).trans (x_mT _)) i⟩
      · obtain ⟨x4, b1, a2⟩ := gbd a2
        obtain ⟨x6, b2, a2⟩ := gbd a2
        obtain ⟨x8, b3, a2⟩ := gbd a2
        obtain ⟨x10, b4, a2⟩ := gbd a2
        refine eb b1 (eb b2 (eb b3 (eb b4 (eb a2 ?_))))
        rw [a3]
      · rw [words_mtp, words_mT, x_mtp, x_mT]
        exact h6.mono (by omega)
    · exact ⟨-1, s, mT sm, eb a1 rfl, a2, h.th⟩)

