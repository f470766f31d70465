/-! desk -/
theorem deskT {n : Nat} {s9 : OuBT} {sm S : MoT} {j p : Nat} {u : UT} {q' : QT} (hS : S = pu (bs (mT sm) (nI j)) p u q') (hQ : RQ 0 0 (Mo_words (mT sm)) false (OuB_reader s9) q') (hD : Rd_hasDesk (OuB_reader s9) = nI 1) (tb : TB (Rd_tape (OuB_reader s9)) (bs (mT sm) (nI j))) (l0 : Tp_length (Rd_tape (OuB_reader s9)) = nI 0) (f0 : OuB_fault s9 = nI 0) :
    ∃ v s' sm' kc vc, ((f_X1_clear (OuB_books s9) (Rd_how (OuB_reader s9)) (Rd_keep (OuB_reader s9)) (Rd_late (OuB_reader s9))).bind fun r12 => (f_X8_doLines_B (OuB_w_isKept (OuB_w_books s9 r12) (0 : Int32))).bind fun r14 => (f_X8_accept_B (r14.2) (r14.1)).bind fun r16 => some ((r16.1), (r16.2))) = some (v, s') ∧
      ((f_X9_begins (Mo_w_hasImage (Mo_w_isThere S (1 : Int32)) (0 : Int32)) (0 : Int32) (Mo_readHow S) (Mo_readKeep S) (Mo_readLate S)).bind fun r8 => (f_X9_doesAll r8).bind fun r10 => (f_X9_good (r10.2) (r10.1)).bind fun r12 => some ((r12.1), (r12.2))) = some (v, sm') ∧ RB (n + 1) kc vc s' sm' ∧ OuB_isKept s' = nI 0 ∧ Mo_hasImage sm' = nI 0 := by
  obtain ⟨kc, vc, c, hQ⟩ := hQ
  rcases hQ.2.2.2.2.2.2.2.2.2.2 with ⟨_, g, _⟩ | ⟨_, _, g⟩
  · rw [hD] at g
    exact absurd g (by decide)
  obtain ⟨hw, kp, lt, g1, g2, g3, g4, g5, g6, g7, g8, g9⟩ := g rfl
  have P := pu_f sm j p u q'
  have F : Mo_readWords (pu (bs (mT sm) (nI j)) p u q') = q'.1 ∧ Mo_readMany (pu (bs (mT sm) (nI j)) p u q') = q'.2.1 ∧ Mo_lineKind (pu (bs (mT sm) (nI j)) p u q') = yK_ q'.2.2 ∧ Mo_lineSide (pu (bs (mT sm) (nI j)) p u q') = yS_ q'.2.2 ∧ Mo_lineKey (pu (bs (mT sm) (nI j)) p u q') = yY_ q'.2.2 ∧ Mo_lineValue (pu (bs (mT sm) (nI j)) p u q') = yV_ q'.2.2 ∧ Mo_lineMany (pu (bs (mT sm) (nI j)) p u q') = yM_ q'.2.2 ∧ Mo_lineTime (pu (bs (mT sm) (nI j)) p u q') = yT_ q'.2.2 ∧ Mo_lines (pu (bs (mT sm) (nI j)) p u q') = yN_ q'.2.2 ∧ Mo_fault (pu (bs (mT sm) (nI j)) p u q') = (0 : Int32) ∧ Mo_readHow (pu (bs (mT sm) (nI j)) p u q') = yH_ q'.2.2 ∧ Mo_readKeep (pu (bs (mT sm) (nI j)) p u q') = yP_ q'.2.2 ∧ Mo_readLate (pu (bs (mT sm) (nI j)) p u q') = yL_ q'.2.2 := ⟨pu_readWords _ _ _ _, pu_readMany _ _ _ _, pu_lineKind _ _ _ _, pu_lineSide _ _ _ _, pu_lineKey _ _ _ _, pu_lineValue _ _ _ _, pu_lineMany _ _ _ _, pu_lineTime _ _ _ _, pu_lines _ _ _ _, pu_fault _ _ _ _, pu_readHow _ _ _ _, pu_readKeep _ _ _ _, pu_readLate _ _ _ _⟩
  have bt : Mo_tape (bs (mT sm) (nI j)) = Mo_tape sm := (zf_tape_size _ _).trans ((zf_tape_taped _ _).trans (tape_mT _))
  rw [← hS] at P F
  clear hS
  obtain ⟨P1, P2, P3, P4, P5, P6⟩ := P
  obtain ⟨F1, F2, F3, F4, F5, F6, F7, F8, F9, F10, F11, F12, F13⟩ := F
  rw [F11, F12, F13, g5, g7, g9, g4, g6, g8]
  have M0 : Mo_hasImage (Mo_w_hasImage (Mo_w_isThere S (1 : Int32)) (0 : Int32)) = nI 0 := zf_hasImage_hasImage _ _
  have M1 : Mo_isThere (Mo_w_hasImage (Mo_w_isThere S (1 : Int32)) (0 : Int32)) = nI 1 := (zf_isThere_hasImage _ _).trans (zf_isThere_isThere _ _)
  have M2 : Mo_tape (Mo_w_hasImage (Mo_w_isThere S (1 : Int32)) (0 : Int32)) = Mo_tape sm := (zf_tape_hasImage _ _).trans ((zf_tape_isThere _ _).trans P2)
  have M3 : Mo_taped (Mo_w_hasImage (Mo_w_isThere S (1 : Int32)) (0 : Int32)) = nI 0 := (zf_taped_hasImage _ _).trans ((zf_taped_isThere _ _).trans P3)
  have M4 : Mo_fault (Mo_w_hasImage (Mo_w_isThere S (1 : Int32)) (0 : Int32)) = nI 0 := (zf_fault_hasImage _ _).trans ((zf_fault_isThere _ _).trans F10)
  have N1 := (zf_readWords_hasImage (Mo_w_isThere S (1 : Int32)) (0 : Int32)).trans ((zf_readWords_isThere S (1 : Int32)).trans F1)
  have N2 := (zf_readMany_hasImage (Mo_w_isThere S (1 : Int32)) (0 : Int32)).trans ((zf_readMany_isThere S (1 : Int32)).trans F2)
  have N3 := (zf_lineKind_hasImage (Mo_w_isThere S (1 : Int32)) (0 : Int32)).trans ((zf_lineKind_isThere S (1 : Int32)).trans F3)
  have N4 := (zf_lineSide_hasImage (Mo_w_isThere S (1 : Int32)) (0 : Int32)).trans ((zf_lineSide_isThere S (1 : Int32)).trans F4)
  have N5 := (zf_lineKey_hasImage (Mo_w_isThere S (1 : Int32)) (0 : Int32)).trans ((zf_lineKey_isThere S (1 : Int32)).trans F5)
  have N6 := (zf_lineValue_hasImage (Mo_w_isThere S (1 : Int32)) (0 : Int32)).trans ((zf_lineValue_isThere S (1 : Int32)).trans F6)
  have N7 := (zf_lineMany_hasImage (Mo_w_isThere S (1 : Int32)) (0 : Int32)).trans ((zf_lineMany_isThere S (1 : Int32)).trans F7)
  have N8 := (zf_lineTime_hasImage (Mo_w_isThere S (1 : Int32)) (0 : Int32)).trans ((zf_lineTime_isThere S (1 : Int32)).trans F8)
  have N9 := (zf_lines_hasImage (Mo_w_isThere S (1 : Int32)) (0 : Int32)).trans ((zf_lines_isThere S (1 : Int32)).trans F9)
  generalize Mo_w_hasImage (Mo_w_isThere S (1 : Int32)) (0 : Int32) = M at M0 M1 M2 M3 M4 N1 N2 N3 N4 N5 N6 N7 N8 N9 ⊢
  obtain ⟨y, b1, b2, b3, b4, b5, b6⟩ := r_begins M (Mo_x M) (b := 0) (nI hw) (nI kp) (nI lt) (by omega)
  have b1 : f_X9_begins M (0 : Int32) (nI hw) (nI kp) (nI lt) = some (mo M y) := b1
  obtain ⟨bk0, c1, c2⟩ := c_bclear (OuB_books s9) (Mo_words (mT sm)) g1 g2 g3 b2 b3 b4 b5
  have hR1 : RBk 0 0 0 0 0 (OuB_books (OuB_w_isKept (OuB_w_books s9 bk0) (0 : Int32))) (Mo_words (mT sm)) (Mo_x (mo M y)) := c2
  obtain ⟨v, bk', W, x', T', z1, z2, z3, z4, z5, z6, z7⟩ := doAll2 (s := OuB_w_isKept (OuB_w_books s9 bk0) (0 : Int32)) (m := mo M y) (q := q') (kc := kc) (vc := vc) (c := c) (im := false) hQ ((zf_readWords_x M y).trans N1) ((zf_readMany_x M y).trans N2) ((zf_lineKind_x M y).trans N3) ((zf_lineSide_x M y).trans N4) ((zf_lineKey_x M y).trans N5) ((zf_lineValue_x M y).trans N6) ((zf_lineMany_x M y).trans N7) ((zf_lineTime_x M y).trans N8) ((zf_lines_x M y).trans N9) hR1 (by omega) (by omega)
  have tb' : TB (Rd_tape (OuB_reader (OuB_w_isKept (OuB_w_books s9 bk0) (0 : Int32)))) (mo M y) := fun i hi => by
    have a := tb i hi
    rw [bt] at a
    rw [show Mo_tape (mo M y) = Mo_tape sm from (zf_tape_x M y).trans M2]
    exact a
  have fin := fin_do (n := n) (s9 := OuB_w_isKept (OuB_w_books s9 bk0) (0 : Int32)) (m := mo M y) (T' := T') (bk' := bk') (W := W) (x' := x') (kc := kc) (vc := vc) (by omega) (z4.mono (by omega)) tb' l0 ((zf_taped_x M y).trans M3) f0 ((zf_fault_x M y).trans M4) ((zf_isThere_x M y).trans M1)
  exact ⟨v, _, _, kc, vc, eb c1 (eb z1 (eb (a := (v, OuB_w_trouble (OuB_w_books (OuB_w_isKept (OuB_w_books s9 bk0) (0 : Int32)) bk') 0)) rfl rfl)), eb b1 (eb z2 (eb (r_good _ _) rfl)), fin.1, rfl, fin.2.1.trans ((zf_hasImage_x M y).trans M0)⟩
theorem c_exD (rd : RdT) : f_X3_expectDesk rd = some (Rd_w_hasDesk (Rd_w_values (Rd_w_keys rd (Wd_w_count (Rd_keys rd) (0 : Int32))) (Wd_w_count (Rd_values rd) (0 : Int32))) (0 : Int32)) := rfl
theorem deskR {sm : MoT} {rd : RdT} {j : Nat} (tb : ∀ i, i < 900 → Tp_bytes (Rd_tape rd) i = Mo_tape sm i ∧ isBy (Tp_bytes (Rd_tape rd) i)) (hj : j ≤ 900) :
    ∃ rd', ((f_X3_readLines (Rd_w_hasDesk (Rd_w_values (Rd_w_keys rd (Wd_w_count (Rd_keys rd) (0 : Int32))) (Wd_w_count (Rd_values rd) (0 : Int32))) (0 : Int32)) (nI j) = some (1, rd') ∧ ∃ S p u q', f_X9_reads (Mo_w_thrown sm (0 : Int32)) (nI j) (0 : Int32) = some (1, S) ∧ S = pu (bs (mT sm) (nI j)) p u q' ∧ TB (Rd_tape rd') (bs (mT sm) (nI j)) ∧ RQ 0 0 (Mo_words (mT sm)) false rd' q' ∧ Rd_hasDesk rd' = nI 1 ∧ Rd_fault rd' = nI 0)
      ∨ (f_X3_readLines (Rd_w_hasDesk (Rd_w_values (Rd_w_keys rd (Wd_w_count (Rd_keys rd) (0 : Int32))) (Wd_w_count (Rd_values rd) (0 : Int32))) (0 : Int32)) (nI j) = some (0, rd') ∧ ∃ S, f_X9_reads (Mo_w_thrown sm (0 : Int32)) (nI j) (0 : Int32) = some (0, Mo_w_wrongAt (Mo_w_trouble S (4 : Int32)) (Mo_at S)) ∧ De (bs (mT sm) (nI j)) rd' S)) := by
  have R := reads2 (n := j) (kc0 := 0) (vc0 := 0) (im := false) (s := mT sm) (rd := Rd_w_hasDesk (Rd_w_values (Rd_w_keys rd (Wd_w_count (Rd_keys rd) (0 : Int32))) (Wd_w_count (Rd_values rd) (0 : Int32))) (0 : Int32)) (fun i hi => by rw [tape_mT]; exact tb i hi) hj rfl (by omega) (by omega) rfl rfl (fun k hk => absurd hk (Nat.not_lt_zero _)) (fun k hk => absurd hk (Nat.not_lt_zero _)) (fun _ => ⟨rfl, rfl⟩) (fun e => by cases e)
  obtain ⟨⟨o, rd'⟩, ⟨o', S⟩, a1, a2, a3⟩ := R
  have a2 : f_X9_reads (Mo_w_thrown sm (0 : Int32)) (nI j) (0 : Int32) = some (o', S) := a2
  rcases a3 with ⟨b1, b2, b3⟩ | ⟨b1, b2, S', b3, b4⟩
  · have b1 : o = 1 := b1
    have b2 : o' = 1 := b2
    subst b1
    subst b2
    rcases b3 with ⟨_, p, u, q', d1, d2, d3, d4, d5, d6⟩ | ⟨b3, _⟩
    · exact ⟨rd', Or.inl ⟨a1, S, p, u, q', a2, d1, d2, d3, d4, d5⟩⟩
    · exact absurd b3 (show ¬ (1 : Int32) = 0 by decide)
  · have b1 : o = 0 := b1
    have b2 : o' = 0 := b2
    have b4 : S = Mo_w_wrongAt (Mo_w_trouble S' (4 : Int32)) (Mo_at S') := b4
    subst b1
    subst b2
    subst b4
    exact ⟨rd', Or.inr ⟨a1, S', a2, b3⟩⟩
theorem deskB {n kc vc : Nat} {s : OuBT} {sm : MoT} (h : RB n kc vc s sm) (p1 : Int32) : ∃ r s' sm' kc2 vc2, f_X8_desk_B s p1 = some (r, s') ∧ f_X9_desk sm p1 = some (r, sm') ∧ RB (n + 1) kc2 vc2 s' sm' ∧ ((kc2 = kc ∧ vc2 = vc ∧ KS s sm s' sm') ∨ (OuB_isKept s' = nI 0 ∧ Mo_hasImage sm' = nI 0)) := by
  obtain ⟨⟨⟨t, t1, t2, t3⟩, tb⟩, h2, h3, T, hT, hR⟩ := id h
  rcases rng p1 t (by omega) with ⟨j, hj, rfl, q1, q2⟩ | ⟨_, q⟩
  · have c2 : nI j ≤ Tp_length (Rd_tape (OuB_reader s)) := by rw [t2]; exact q2
    have r2 : nI j ≤ Mo_taped sm := by rw [t3]; exact q2
    unfold f_X8_desk_B f_X9_desk
    obtain ⟨rd', ⟨a1, S, p, u, q', a2, d1, d2, d3, d4, d5⟩ | ⟨a1, S, a2, d1⟩⟩ := deskR (rd := OuB_reader s) (j := j) tb (by omega)
    · have tk : f_X8_tookText_B (OuB_w_reader s rd') (1 : Int32) = some (1, tk9 s rd') := if_pos (by decide)
      have d3' : RQ 0 0 (Mo_words (mT sm)) false (OuB_reader (tk9 s rd')) q' := d3
      obtain ⟨v, s', sm', kc2, vc2, e1, e2, e3, e4, e5⟩ := deskT (n := n) (s9 := tk9 s rd') d1 d3' d4 d2 rfl d5
      exact ⟨v, s', sm', kc2, vc2, (if_neg q1).trans ((if_pos c2).trans (eb (c_exD _) (eb a1 (eb tk ((if_neg (show ¬ (1 : Int32) = 0 by decide)).trans e1))))), (if_neg q1).trans ((if_pos r2).trans (eb a2 ((if_neg (show ¬ (1 : Int32) = 0 by decide)).trans e2))), e3, Or.inr ⟨e4, e5⟩⟩
    · have tk : f_X8_tookText_B (OuB_w_reader s rd') (0 : Int32) = some (0, tk9 s rd') := if_pos (by decide)
      have fin := fin_fa h d1
      exact ⟨-1, OuB_w_trouble (tk9 s rd') 4, _, kc, vc, (if_neg q1).trans ((if_pos c2).trans (eb (c_exD _) (eb a1 (eb tk ((if_pos rfl).trans rfl))))), (if_neg q1).trans ((if_pos r2).trans (eb a2 (if_pos rfl))), fin.1, Or.inl ⟨rfl, rfl, fin.2⟩⟩
  · have e1 : f_X8_desk_B s p1 = some (-1, OuB_w_trouble s 2) := by
      unfold f_X8_desk_B
      rcases q with q | ⟨q, q'⟩
      · exact (if_pos q).trans rfl
      · exact (if_neg q).trans ((if_neg (by rw [t2]; exact q')).trans rfl)
    have e2 : f_X9_desk sm p1 = some (-1, mR (mT sm) 2) := by
      unfold f_X9_desk
      rcases q with q | ⟨q, q'⟩
      · exact (if_pos q).trans rfl
      · exact (if_neg q).trans ((if_neg (by rw [t3]; exact q')).trans rfl)
    obtain ⟨r, s', sm', g1, g2, g3, g4⟩ := fin_r h (-1) 2 tr2 e1 e2
    exact ⟨r, s', sm', kc, vc, g1, g2, g3, Or.inl ⟨rfl, rfl, g4⟩⟩
theorem deskN {n : Nat} {s : OuNT} {sm : MoT} (h : RN s sm) (p1 : Int32) : ∃ r sm', f_X9_desk sm p1 = some (r, sm') ∧ ((∃ s', f_X8_desk_N s p1 = some (r, s') ∧ RN s' sm') ∨ (f_X8_desk_N s p1 = none ∧ ∃ s' kc vc, f_X8_desk_N1 s p1 = some (r, s') ∧ RB (n + 1) kc vc s' sm' ∧ OuB_isKept s' = nI 0 ∧ Mo_hasImage sm' = nI 0)) := by
  obtain ⟨⟨⟨t, t1, t2, t3⟩, tb⟩, h2, h3, h4, h5⟩ := id h
  rcases rng p1 t (by omega) with ⟨j, hj, rfl, q1, q2⟩ | ⟨_, q⟩
  · have c2 : nI j ≤ Tp_length (Rd_tape (OuN_reader s)) := by rw [t2]; exact q2
    have r2 : nI j ≤ Mo_taped sm := by rw [t3]; exact q2
    unfold f_X8_desk_N f_X8_desk_N1 f_X9_desk
    obtain ⟨rd', ⟨a1, S, p, u, q', a2, d1, d2, d3, d4, d5⟩ | ⟨a1, S, a2, d1⟩⟩ := deskR (rd := OuN_reader s) (j := j) tb (by omega)
    · have tk : f_X8_tookText_N (OuN_w_reader s rd') (1 : Int32) = some (1, tk9N s rd') := if_pos (by decide)
      obtain ⟨v, s', sm', kc2, vc2, e1, e2, e3, e4, e5⟩ := deskT (n := n) (s9 := OuB_mk (OuN_reader (tk9N s rd')) (OuN_trial (tk9N s rd')) (OuN_order (tk9N s rd')) Bk_0 (OuN_isKept (tk9N s rd')) (OuN_trouble (tk9N s rd')) (OuN_fault (tk9N s rd')) (OuN_place (tk9N s rd'))) d1 d3 d4 d2 rfl d5
      exact ⟨v, sm', (if_neg q1).trans ((if_pos r2).trans (eb a2 ((if_neg (show ¬ (1 : Int32) = 0 by decide)).trans e2))), Or.inr ⟨(if_neg q1).trans ((if_pos c2).trans (eb (c_exD _) (eb a1 (eb tk (if_neg (show ¬ (1 : Int32) = 0 by decide)))))), s', kc2, vc2, (if_neg q1).trans ((if_pos c2).trans (eb (c_exD _) (eb a1 (eb tk ((if_neg (show ¬ (1 : Int32) = 0 by decide)).trans e1))))), e3, e4, e5⟩⟩
    · have tk : f_X8_tookText_N (OuN_w_reader s rd') (0 : Int32) = some (0, tk9N s rd') := if_pos (by decide)
      exact ⟨-1, _, (if_neg q1).trans ((if_pos r2).trans (eb a2 (if_pos rfl))), Or.inl ⟨OuN_w_trouble (tk9N s rd') 4, (if_neg q1).trans ((if_pos c2).trans (eb (c_exD _) (eb a1 (eb tk ((if_pos rfl).trans rfl))))), fin_fN h d1⟩⟩
  · have e1 : f_X8_desk_N s p1 = some (-1, OuN_w_trouble s 2) := by
      unfold f_X8_desk_N
      rcases q with q | ⟨q, q'⟩
      · exact (if_pos q).trans rfl
      · exact (if_neg q).trans ((if_neg (by rw [t2]; exact q')).trans rfl)
    have e2 : f_X9_desk sm p1 = some (-1, mR (mT sm) 2) := by
      unfold f_X9_desk
      rcases q with q | ⟨q, q'⟩
      · exact (if_pos q).trans rfl
      · exact (if_neg q).trans ((if_neg (by rw [t3]; exact q')).trans rfl)
    exact ⟨-1, _, e2, Or.inl ⟨_, e1, h.ref tr2⟩⟩
theorem st_desk (n : Nat) (p1 : Int32) : StpR n (fun cs => fc_desk cs p1) (fun sm => f_X9_desk sm p1) := by
  intro hn cs sm hR
  rcases cs with s | s | ⟨s, h⟩
  · have hR : RN s sm := hR
    obtain ⟨r, sm', a, ⟨s', b, c⟩ | ⟨b0, s', kc, vc, b, c, d, e⟩⟩ := deskN (n := n) hR p1
    · exact ⟨r, csN s', sm', by simp only [fc_desk, b], a, c⟩
    · exact ⟨r, csB s', sm', by simp only [fc_desk, b0, b]; rfl, a, d, e, kc, vc, c⟩
  · obtain ⟨k1, k2, kc, vc, k3⟩ := hR
    obtain ⟨r, s', sm', kc2, vc2, a, b, c, d⟩ := deskB k3 p1
    have e : fc_desk (.inr (.inl s)) p1 = (f_X8_desk_B s p1).map fun q => (q.1, csB q.2) := rfl
    rcases d with ⟨d1, d2, d3⟩ | ⟨d1, d2⟩
    · exact ⟨r, csB s', sm', by show fc_desk (.inr (.inl s)) p1 = _; rw [e, a]; rfl, b, by rw [← k1]; exact d3.1, by rw [← k2]; exact d3.2.1, kc2, vc2, c⟩
    · exact ⟨r, csB s', sm', by show fc_desk (.inr (.inl s)) p1 = _; rw [e, a]; rfl, b, d1, d2, kc2, vc2, c⟩
  · obtain ⟨kc, vc, k3, k4⟩ := hR
    obtain ⟨r, s', sm', kc2, vc2, a, b, c, d⟩ := deskB k3 p1
    have e : fc_desk (.inr (.inr (s, h))) p1 = (f_X8_desk_B s p1).map fun q => (q.1, csS q.2 h) := rfl
    refine ⟨r, csS s' h, sm', by show fc_desk (.inr (.inr (s, h))) p1 = _; rw [e, a]; rfl, b, kc2, vc2, c, ?_⟩
    rcases d with ⟨d1, d2, d3⟩ | ⟨d1, d2⟩
    · subst d1
      subst d2
      exact k4.ks d3
    · exact Or.inl ⟨d1, d2⟩
