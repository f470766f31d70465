/-! keep, back, size -/
theorem q_x_hasImage (s : MoT) (v : Int32) : Mo_x (Mo_w_hasImage s v) = Mo_x s := rfl
theorem q_words_hasImage (s : MoT) (v : Int32) : Mo_words (Mo_w_hasImage s v) = Mo_words s := rfl
theorem q_tape_hasImage (s : MoT) (v : Int32) : Mo_tape (Mo_w_hasImage s v) = Mo_tape s := rfl
theorem q_taped_hasImage (s : MoT) (v : Int32) : Mo_taped (Mo_w_hasImage s v) = Mo_taped s := rfl
theorem q_isThere_hasImage (s : MoT) (v : Int32) : Mo_isThere (Mo_w_hasImage s v) = Mo_isThere s := rfl
theorem q_fault_hasImage (s : MoT) (v : Int32) : Mo_fault (Mo_w_hasImage s v) = Mo_fault s := rfl
theorem q_trouble_hasImage (s : MoT) (v : Int32) : Mo_trouble (Mo_w_hasImage s v) = Mo_trouble s := rfl
theorem q_wrongAt_hasImage (s : MoT) (v : Int32) : Mo_wrongAt (Mo_w_hasImage s v) = Mo_wrongAt s := rfl
theorem RBk.mv {b b' kc vc T B : Nat} {s t : BkT} {wd : Nat → Int64} {x y : Nat → Int32} (hR : RBk b kc vc T B t wd x) (hE : BkE s t) (e : ∀ i, i < 6571 → y (6571 * b' + i) = x (6571 * b + i)) : RBk b' kc vc T B s wd y := by
  obtain ⟨⟨h, a1, a2, a3, a4, a5, ⟨l1, l2, l3, l4, l5, l6, l7, l8, l9⟩, a7⟩, ⟨w1, w2, w3, w4, w5, w6, w7, w8⟩, ⟨m, m1', m2', m3, m4⟩, h4, ⟨⟨kp, k1, k2, k3⟩, ⟨lt, t1, t2, t3⟩, ⟨ck, c1, c2, c3⟩, f4, f5, f6⟩, h6, ⟨c, s1, s2, s3, s4⟩, h8, h9⟩ := hR
  obtain ⟨⟨e1, e2⟩, ⟨e3, e4⟩, ⟨n1, n2, n3, n4⟩, ⟨g1, g2, g3, g4, g5, g6, g7, g8, g9, g10⟩, ⟨q1, q2, q3, q4, q5⟩, ⟨u1, u2, u3⟩, v1, v2, v3, v4, v5, v6, v7⟩ := hE
  refine ⟨⟨h, fun i hi => ?_, by rw [n4]; exact a2, (e 0 (by omega)).trans a3, a4, fun i hi => by rw [n3 i hi, a5 i hi, e _ (by omega)], ⟨fun k hk => by rw [g4 k hk, l1 k hk, e _ (by omega)], by rw [g5]; exact l2, by rw [e _ (by omega)]; exact l3, by rw [g6, l4, e _ (by omega)], by rw [g7, l5, e _ (by omega)], by rw [g8, l6, e _ (by omega)], fun j hj hj2 => ?_, fun k hk => by rw [g4 k hk]; exact l8 k hk, fun hT => ?_⟩, fun k l r p1 p2 p3 => ?_⟩, ⟨w1, w2, by rw [e1]; exact w3, by rw [e _ (by omega)]; exact w4, by rw [e3]; exact w5, by rw [e _ (by omega)]; exact w6, fun k hk => by rw [e2 k (by omega)]; exact w7 k hk, fun k hk => by rw [e4 k (by omega)]; exact w8 k hk⟩, ⟨m, m1', by rw [g9]; exact m2', by rw [e _ (by omega)]; exact m3, by rw [g10, e _ (by omega)]; exact m4⟩, fun k hk => ?_, ⟨⟨kp, k1, by rw [v3]; exact k2, by rw [e _ (by omega)]; exact k3⟩, ⟨lt, t1, by rw [v4]; exact t2, by rw [e _ (by omega)]; exact t3⟩, ⟨ck, c1, by rw [v5]; exact c2, by rw [e _ (by omega)]; exact c3⟩, by rw [v6, f4, e _ (by omega)], by rw [v7, f5, e _ (by omega)], fun k hk => by rw [v2 k hk, f6 k hk, e _ (by omega)]⟩, ⟨fun sd k v p1 p2 p3 p4 => ?_, fun k l r p1 p2 p3 p4 => ?_⟩, ⟨c, s1, by rw [q5]; exact s2, by rw [e _ (by omega)]; exact s3, fun j hj => ?_⟩, fun w hw => ?_, fun i hi => by rw [n1 i hi]; exact h9 i hi⟩
  · rw [n1 i hi, a1 i hi]
    unfold xn
    rw [Nat.add_assoc, Nat.add_assoc, e _ (by omega)]
  · obtain ⟨k, l, r, p1, p2, p3, p4, p5, p6, p7, p8, p9⟩ := l7 j hj hj2
    exact ⟨k, l, r, p1, p2, p3, by rw [e _ (by omega)]; exact p4, by rw [e _ (by omega)]; exact p5, by rw [e _ (by omega)]; exact p6, by rw [g1 j hj]; exact p7, by rw [g2 j hj, e _ (by omega)]; exact p8, by rw [g3 j hj, e _ (by omega)]; exact p9⟩
  · obtain ⟨k, c, p1, p2, p3, p4⟩ := l9 hT
    exact ⟨k, c, p1, p2, p3, by rw [g4 k p1]; exact p4⟩
  · rw [n2 _ (by omega), a7 k l r p1 p2 p3, J_congr p1 n1, e _ (by omega)]
  · rw [v1 k hk]
    rcases h4 k hk with ⟨p1, p2, p3⟩ | ⟨t, p1, p2, p3, p4⟩
    · exact Or.inl ⟨by rw [e _ (by omega)]; exact p1, p2, fun sd v r1 r2 => by rw [n1 _ (by omega)]; exact p3 sd v r1 r2⟩
    · exact Or.inr ⟨t, p1, by rw [e _ (by omega)]; exact p2, by rw [e _ (by omega)]; exact p3, p4⟩
  · rw [n1 _ (by omega)] at p4
    exact h6.1 sd k v p1 p2 p3 p4
  · rw [e _ (by omega)] at p4
    exact h6.2 k l r p1 p2 p3 p4
  · obtain ⟨sd, k, v, p1, p2, p3, p4, p5, p6, p7, p8, p9, p10, p11, p12⟩ := s4 j hj
    exact ⟨sd, k, v, p1, p2, p3, by rw [q1 j (by omega)]; exact p4, by rw [q2 j (by omega)]; exact p5, by rw [q3 j (by omega)]; exact p6, by rw [q4 j (by omega)]; exact p7, by rw [q4 j (by omega)]; exact p8, by rw [e _ (by omega)]; exact p9, by rw [e _ (by omega)]; exact p10, by rw [e _ (by omega)]; exact p11, by rw [q4 j (by omega), e _ (by omega)]; exact p12⟩
  · rcases h8 w hw with ⟨p1, p2⟩ | ⟨sn, p1, p2, p3, p4, p5⟩
    · exact Or.inl ⟨by rw [u1 w hw]; exact p1, by rw [e _ (by omega)]; exact p2⟩
    · exact Or.inr ⟨sn, p1, by rw [u1 w hw]; exact p2, by rw [e _ (by omega)]; exact p3, by rw [e _ (by omega)]; exact p4, fun r hr => ⟨by rw [u2 _ (by omega), e _ (by omega)]; exact (p5 r hr).1, by rw [u3 _ (by omega), e _ (by omega)]; exact (p5 r hr).2⟩⟩
/-- the class's keep, whatever shelf was there -/
theorem keep2 {n kc vc : Nat} {s : OuBT} {sm : MoT} (h : RB n kc vc s sm) (sh sh' : BkT) (hE : BkE sh' (OuB_books s)) : ∃ sm', f_X9_keep sm = some (1, sm') ∧ Rel (n + 1) (csS (OuB_w_trouble (OuB_w_isKept s (1 : Int32)) (0 : Int32)) sh') sm' := by
  have nT := h.nT
  have c1 : f_X9_copies (mT sm) 2 0 = some (mo (mT sm) (cpX (Mo_x sm) 2 0 6571)) := r_copies (mT sm) (Mo_x sm) (a := 2) (b := 0) (by omega) (by omega) (by omega)
  obtain ⟨h1, h2, h3, T, h5, h6⟩ := h
  refine ⟨mG (Mo_w_hasImage (mo (mT sm) (cpX (Mo_x sm) 2 0 6571)) 1), ?_, kc, vc, ?_, Or.inr ⟨rfl, ?_, kc, vc, T, Nat.le_refl _, Nat.le_refl _, by omega, ?_⟩⟩
  · unfold f_X9_keep
    exact (if_neg nT).trans (eb c1 rfl)
  · have ex : Mo_x (mG (Mo_w_hasImage (mo (mT sm) (cpX (Mo_x sm) 2 0 6571)) 1)) = cpX (Mo_x sm) 2 0 6571 := (x_mG _).trans ((q_x_hasImage _ _).trans (mo_x _ _))
    have ew : Mo_words (mG (Mo_w_hasImage (mo (mT sm) (cpX (Mo_x sm) 2 0 6571)) 1)) = Mo_words sm := (words_mG _).trans ((q_words_hasImage _ _).trans ((q_words_x _ _).trans (words_mT _)))
    have et : Mo_tape (mG (Mo_w_hasImage (mo (mT sm) (cpX (Mo_x sm) 2 0 6571)) 1)) = Mo_tape sm := (tape_mG _).trans ((q_tape_hasImage _ _).trans ((q_tape_x _ _).trans (tape_mT _)))
    have ed : Mo_taped (mG (Mo_w_hasImage (mo (mT sm) (cpX (Mo_x sm) 2 0 6571)) 1)) = Mo_taped sm := (taped_mG _).trans ((q_taped_hasImage _ _).trans ((q_taped_x _ _).trans (taped_mT _)))
    have ei : Mo_isThere (mG (Mo_w_hasImage (mo (mT sm) (cpX (Mo_x sm) 2 0 6571)) 1)) = Mo_isThere sm := (isThere_mG _).trans ((q_isThere_hasImage _ _).trans ((q_isThere_x _ _).trans (isThere_mT _)))
    have ef : Mo_fault (mG (Mo_w_hasImage (mo (mT sm) (cpX (Mo_x sm) 2 0 6571)) 1)) = Mo_fault sm := (fault_mG _).trans ((q_fault_hasImage _ _).trans ((q_fault_x _ _).trans (fault_mT _)))
    have etr := trouble_mG (Mo_w_hasImage (mo (mT sm) (cpX (Mo_x sm) 2 0 6571)) 1)
    have ewr := wrongAt_mG (Mo_w_hasImage (mo (mT sm) (cpX (Mo_x sm) 2 0 6571)) 1)
    generalize mG (Mo_w_hasImage (mo (mT sm) (cpX (Mo_x sm) 2 0 6571)) 1) = sm' at ex ew et ed ei ef etr ewr
    obtain ⟨⟨t, a1, a2, a3⟩, a4⟩ := h1
    refine ⟨⟨⟨t, a1, a2, by rw [ed]; exact a3⟩, fun i hi => by rw [et]; exact a4 i hi⟩, ⟨etr, by rw [ef]; exact h2.2.1, ewr⟩, by rw [ei]; exact h3, T, by omega, ?_⟩
    rw [ew, ex]
    refine RBk.mono (h6.bank (fun i p1 p2 => ?_)) (by omega)
    unfold cpX
    rw [if_neg (by omega)]
  · exact (hasImage_mG _).trans rfl
  · have ex : Mo_x (mG (Mo_w_hasImage (mo (mT sm) (cpX (Mo_x sm) 2 0 6571)) 1)) = cpX (Mo_x sm) 2 0 6571 := (x_mG _).trans ((q_x_hasImage _ _).trans (mo_x _ _))
    have ew : Mo_words (mG (Mo_w_hasImage (mo (mT sm) (cpX (Mo_x sm) 2 0 6571)) 1)) = Mo_words sm := (words_mG _).trans ((q_words_hasImage _ _).trans ((q_words_x _ _).trans (words_mT _)))
    rw [ew, ex]
    refine (RBk.mv (b' := 2) h6 hE (fun i hi => ?_)).mono (by omega)
    unfold cpX
    rw [if_pos (by omega)]
    exact congrArg (Mo_x sm) (by omega)
theorem st_keep (n : Nat) : StpR n (fun cs => fc_keep cs) (fun sm => f_X9_keep sm) := by
  intro hn cs sm hR
  rcases cs with s | s | ⟨s, h⟩
  · have hN : RN s sm := hR
    exact ⟨0, csN (OuN_w_trouble s 1), mR (mT sm) 1, rfl, (if_pos hN.2.2.2.1).trans rfl, hN.ref tr1⟩
  · obtain ⟨k1, k2, kc, vc, k3⟩ := hR
    obtain ⟨r, c1, c2⟩ := c_copy Bk_0 (OuB_books s)
    obtain ⟨sm', a1, a2⟩ := keep2 k3 Bk_0 r c2
    refine ⟨1, csS (OuB_w_trouble (OuB_w_isKept s (1 : Int32)) (0 : Int32)) r, sm', ?_, a1, a2⟩
    show (f_X8_keep_K1 s).map _ = _
    have e : f_X8_keep_K1 s = some (1, OuS_w_trouble (OuS_w_isKept (OuS_w_shelf (OuS_mk (OuK_reader s) (OuK_trial s) (OuK_order s) (OuK_books s) Bk_0 (OuK_isKept s) (OuK_trouble s) (OuK_fault s) (OuK_place s)) r) 1) 0) := by
      unfold f_X8_keep_K1
      exact eb c1 rfl
    rw [e]
    rfl
  · obtain ⟨kc, vc, k3, k4⟩ := hR
    obtain ⟨r, c1, c2⟩ := c_copy h (OuB_books s)
    obtain ⟨sm', a1, a2⟩ := keep2 k3 h r c2
    refine ⟨1, csS (OuB_w_trouble (OuB_w_isKept s (1 : Int32)) (0 : Int32)) r, sm', ?_, a1, a2⟩
    show (f_X8_keep_S (toS s h)).map _ = _
    have e : f_X8_keep_S (toS s h) = some (1, OuS_w_trouble (OuS_w_isKept (OuS_w_shelf (toS s h) r) 1) 0) := by
      unfold f_X8_keep_S
      exact eb c1 rfl
    rw [e]
    rfl
theorem st_back (n : Nat) : StpR n (fun cs => fc_back cs) (fun sm => f_X9_back sm) := by
  intro hn cs sm hR
  rcases cs with s | s | ⟨s, h⟩
  · have hN : RN s sm := hR
    exact ⟨0, csN (OuN_w_trouble s 1), mR (mT sm) 1, rfl, (if_pos hN.2.2.2.2).trans rfl, hN.ref tr1⟩
  · obtain ⟨k1, k2, kc, vc, k3⟩ := hR
    refine ⟨0, csB (OuB_w_trouble s 1), mR (mT sm) 1, rfl, (if_pos k2).trans rfl, k1, ?_, kc, vc, (k3.ref tr1).1⟩
    exact (hasImage_mR _ _).trans ((hasImage_mT _).trans k2)
  · obtain ⟨kc, vc, k3, k4⟩ := hR
    rcases k4 with ⟨a, b⟩ | ⟨a, b, kc', vc', T', c1, c2, c3, c4⟩
    · refine ⟨0, csS (OuB_w_trouble s 1) h, mR (mT sm) 1, ?_, (if_pos b).trans rfl, kc, vc, (k3.ref tr1).1, Or.inl ⟨a, (hasImage_mR _ _).trans ((hasImage_mT _).trans b)⟩⟩
      show (f_X8_back_S (toS s h)).map _ = _
      have e : f_X8_back_S (toS s h) = some (0, OuS_w_trouble (toS s h) 1) := by
        unfold f_X8_back_S
        exact (if_pos a).trans rfl
      rw [e]
      rfl
    · obtain ⟨r, d1, d2⟩ := c_copy (OuB_books s) h
      have e1 : f_X9_copies (mT sm) 0 2 = some (mo (mT sm) (cpX (Mo_x sm) 0 2 6571)) := r_copies (mT sm) (Mo_x sm) (a := 0) (b := 2) (by omega) (by omega) (by omega)
      have nk : ¬ OuB_isKept s = 0 := by rw [a]; decide
      have ni : ¬ Mo_hasImage sm = 0 := by rw [b]; decide
      have x2 : ∀ i, 13142 ≤ i → cpX (Mo_x sm) 0 2 6571 i = Mo_x sm i := fun i hi => by
        unfold cpX
        rw [if_neg (by omega)]
      have hb0 : RBk 0 kc' vc' T' (360 * n) r (Mo_words sm) (cpX (Mo_x sm) 0 2 6571) := RBk.mv (b' := 0) c4 d2 (fun i hi => by
        unfold cpX
        rw [if_pos (by omega)]
        exact congrArg (Mo_x sm) (by omega))
      have put : RB (n + 1) kc' vc' (OuB_w_trouble (OuB_w_books s r) 0) (mG (mo (mT sm) (cpX (Mo_x sm) 0 2 6571))) := by
        obtain ⟨h1, h2, h3, _⟩ := k3
        have e8 : SC sm (mG (mo (mT sm) (cpX (Mo_x sm) 0 2 6571))) := ((SC.mT sm).mo _).mG
        have e1 : Mo_x (mG (mo (mT sm) (cpX (Mo_x sm) 0 2 6571))) = cpX (Mo_x sm) 0 2 6571 := (x_mG _).trans (mo_x _ _)
        have e3 := trouble_mG (mo (mT sm) (cpX (Mo_x sm) 0 2 6571))
        have e4 := wrongAt_mG (mo (mT sm) (cpX (Mo_x sm) 0 2 6571))
        generalize mG (mo (mT sm) (cpX (Mo_x sm) 0 2 6571)) = sm' at e1 e3 e4 e8
        obtain ⟨e2, _, _, e6, e7, e5⟩ := id e8
        refine ⟨h1.sc e8, ⟨e3, by rw [e5]; exact h2.2.1, e4⟩, by rw [e6]; exact h3, T', by omega, ?_⟩
        rw [e2, e1]
        exact hb0.mono (by omega)
      refine ⟨1, csS (OuB_w_trouble (OuB_w_books s r) 0) h, mG (mo (mT sm) (cpX (Mo_x sm) 0 2 6571)), ?_, (if_neg ni).trans (eb e1 rfl), kc', vc', put, Or.inr ⟨a, ?_, kc', vc', T', Nat.le_refl _, Nat.le_refl _, by omega, ?_⟩⟩
      · show (f_X8_back_S (toS s h)).map _ = _
        have e : f_X8_back_S (toS s h) = some (1, OuS_w_trouble (OuS_w_books (toS s h) r) 0) := by
          unfold f_X8_back_S
          exact (if_neg nk).trans (eb d1 rfl)
        rw [e]
        rfl
      · exact (hasImage_mG _).trans ((q_hasImage_x _ _).trans ((hasImage_mT _).trans b))
      · rw [show Mo_words (mG (mo (mT sm) (cpX (Mo_x sm) 0 2 6571))) = Mo_words sm from (words_mG _).trans ((q_words_x _ _).trans (words_mT _)), show Mo_x (mG (mo (mT sm) (cpX (Mo_x sm) 0 2 6571))) = cpX (Mo_x sm) 0 2 6571 from (x_mG _).trans (mo_x _ _)]
        exact (c4.bank (fun i p1 p2 => x2 i (by omega))).mono (by omega)

