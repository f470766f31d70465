/-! more -/
theorem moreB {n kc vc : Nat} {s : OuBT} {sm : MoT} (hn : n < 512) (h : RB n kc vc s sm) (p1 : Int32) : ∃ r s' sm' kc2 vc2, f_X8_more_B s p1 = some (r, s') ∧ f_X9_more_ sm p1 = some (r, sm') ∧ kc ≤ kc2 ∧ vc ≤ vc2 ∧ RB (n + 1) kc2 vc2 s' sm' ∧ KW kc vc s sm s' sm' := by
  have nT := h.nT
  obtain ⟨⟨⟨t, t1, t2, t3⟩, tb⟩, h2, h3, T, hT, hR⟩ := id h
  unfold f_X8_more_B f_X9_more_
  rcases rng p1 t (by omega) with ⟨j, hj, rfl, q1, q2⟩ | ⟨_, q⟩
  · have c2 : nI j ≤ Tp_length (Rd_tape (OuB_reader s)) := by rw [t2]; exact q2
    have r2 : nI j ≤ Mo_taped sm := by rw [t3]; exact q2
    obtain ⟨ks, ks1, ks2, ks3⟩ := c_wcp (Rd_keys (OuB_reader s)) (Bk_keys (OuB_books s))
    obtain ⟨vs, vs1, vs2, vs3⟩ := c_wcp (Rd_values (OuB_reader s)) (Bk_values (OuB_books s))
    have x1 : f_X3_expectMore (OuB_reader s) (Bk_keys (OuB_books s)) (Bk_values (OuB_books s)) = some (Rd_w_hasDesk (Rd_w_values (Rd_w_keys (OuB_reader s) ks) vs) (1 : Int32)) := eb ks1 (eb vs1 rfl)
    obtain ⟨_, hW, _⟩ := id hR
    obtain ⟨w1, w2, w3, w4, w5, w6, w7, w8⟩ := hW
    have R := reads2 (n := j) (kc0 := kc) (vc0 := vc) (im := true) (s := mT sm) (rd := Rd_w_hasDesk (Rd_w_values (Rd_w_keys (OuB_reader s) ks) vs) (1 : Int32)) (fun i hi => by rw [tape_mT]; exact tb i hi) (by omega) rfl w1 w2 (ks2.trans w3) (vs2.trans w5) (fun k hk => by rw [words_mT]; show WR (Wd_packs ks k) _; rw [ks3 k (by omega)]; exact w7 k hk) (fun k hk => by rw [words_mT]; show WR (Wd_packs vs k) _; rw [vs3 k (by omega)]; exact w8 k hk) (fun e => by cases e) (fun _ => by rw [x_mT]; exact ⟨w4, w6⟩)
    obtain ⟨⟨o, rd⟩, ⟨o', S⟩, a1, a2, a3⟩ := R
    have a2 : f_X9_reads (Mo_w_thrown sm (0 : Int32)) (nI j) (1 : Int32) = some (o', S) := a2
    rcases a3 with ⟨b1, b2, b3⟩ | ⟨b1, b2, S', b3, b4⟩
    · have b1 : o = 1 := b1
      have b2 : o' = 1 := b2
      subst b1
      subst b2
      rcases b3 with ⟨_, p, u, q', d1, d2, ⟨kc2, vc2, c, hQ⟩, d4, d5, d6⟩ | ⟨b3, _⟩
      · have d1 : S = pu (bs (mT sm) (nI j)) p u q' := d1
        have tk : f_X8_tookText_B (OuB_w_reader s rd) (1 : Int32) = some (1, tk9 s rd) := if_pos (by decide)
        have P := pu_f sm j p u q'
        have F : Mo_readWords (pu (bs (mT sm) (nI j)) p u q') = q'.1 ∧ Mo_readMany (pu (bs (mT sm) (nI j)) p u q') = q'.2.1 ∧ Mo_lineKind (pu (bs (mT sm) (nI j)) p u q') = yK_ q'.2.2 ∧ Mo_lineSide (pu (bs (mT sm) (nI j)) p u q') = yS_ q'.2.2 ∧ Mo_lineKey (pu (bs (mT sm) (nI j)) p u q') = yY_ q'.2.2 ∧ Mo_lineValue (pu (bs (mT sm) (nI j)) p u q') = yV_ q'.2.2 ∧ Mo_lineMany (pu (bs (mT sm) (nI j)) p u q') = yM_ q'.2.2 ∧ Mo_lineTime (pu (bs (mT sm) (nI j)) p u q') = yT_ q'.2.2 ∧ Mo_lines (pu (bs (mT sm) (nI j)) p u q') = yN_ q'.2.2 ∧ Mo_fault (pu (bs (mT sm) (nI j)) p u q') = (0 : Int32) := ⟨pu_readWords _ _ _ _, pu_readMany _ _ _ _, pu_lineKind _ _ _ _, pu_lineSide _ _ _ _, pu_lineKey _ _ _ _, pu_lineValue _ _ _ _, pu_lineMany _ _ _ _, pu_lineTime _ _ _ _, pu_lines _ _ _ _, pu_fault _ _ _ _⟩
        have bt : Mo_tape (bs (mT sm) (nI j)) = Mo_tape sm := (zf_tape_size _ _).trans ((zf_tape_taped _ _).trans (tape_mT _))
        rw [← d1] at P F
        clear d1
        obtain ⟨P1, P2, P3, P4, P5, P6⟩ := P
        obtain ⟨F1, F2, F3, F4, F5, F6, F7, F8, F9, F10⟩ := F
        have hR1 : RBk 0 kc vc T (360 * n) (OuB_books (tk9 s rd)) (Mo_words (mT sm)) (Mo_x S) := by rw [P6, words_mT]; exact hR
        obtain ⟨v, bk', W, x', T', z1, z2, z3, z4, z5, z6, z7⟩ := doAll2 (s := tk9 s rd) (m := S) (q := q') (hQ.tm (Tp_w_length (Rd_tape rd) (0 : Int32))) F1 F2 F3 F4 F5 F6 F7 F8 F9 hR1 (by omega) (by omega)
        have fin := fin_do (n := n) (s9 := tk9 s rd) (m := S) (T' := T') (bk' := bk') (W := W) (x' := x') (kc := kc2) (vc := vc2) (by omega) (z4.mono (by omega)) (fun i hi => by have a := d2 i hi; rw [bt] at a; rw [P2]; exact a) rfl P3 d5 F10 (P4.trans h3)
        refine ⟨v, _, _, kc2, vc2, (if_neg q1).trans ((if_pos c2).trans (eb x1 (eb a1 (eb tk ((if_neg (show ¬ (1 : Int32) = 0 by decide)).trans (eb z1 (eb (a := (v, OuB_w_trouble (OuB_w_books (tk9 s rd) bk') 0)) rfl rfl))))))), (if_neg nT).trans ((if_neg q1).trans ((if_pos r2).trans (eb a2 ((if_neg (show ¬ (1 : Int32) = 0 by decide)).trans (eb z2 (eb (r_good _ _) rfl)))))), hQ.1, hQ.2.1, fin.1, rfl, fin.2.1.trans P5, fun k hk => ?_, fun k hk => ?_, fun i i1 i2 => ?_⟩
        · exact (congrFun fin.2.2.1 k).trans ((z6 k hk).trans (congrFun (words_mT sm) k))
        · exact (congrFun fin.2.2.1 (8 + k)).trans ((z7 k hk).trans (congrFun (words_mT sm) (8 + k)))
        · exact (congrFun fin.2.2.2 i).trans ((z5 i (Or.inr (by omega))).trans (congrFun P6 i))
      · exact absurd b3 (show ¬ (1 : Int32) = 0 by decide)
    · have b1 : o = 0 := b1
      have b2 : o' = 0 := b2
      have b4 : S = Mo_w_wrongAt (Mo_w_trouble S' (4 : Int32)) (Mo_at S') := b4
      subst b1
      subst b2
      subst b4
      have tk : f_X8_tookText_B (OuB_w_reader s rd) (0 : Int32) = some (0, tk9 s rd) := if_pos (by decide)
      have fin := fin_fa h b3
      exact ⟨-1, OuB_w_trouble (tk9 s rd) 4, _, kc, vc, (if_neg q1).trans ((if_pos c2).trans (eb x1 (eb a1 (eb tk ((if_pos rfl).trans rfl))))), (if_neg nT).trans ((if_neg q1).trans ((if_pos r2).trans (eb a2 (if_pos rfl)))), Nat.le_refl _, Nat.le_refl _, fin.1, fin.2.kw⟩
  · have e1 : f_X8_more_B s p1 = some (-1, OuB_w_trouble s 2) := by
      unfold f_X8_more_B
      rcases q with q | ⟨q, q'⟩
      · exact (if_pos q).trans rfl
      · exact (if_neg q).trans ((if_neg (by rw [t2]; exact q')).trans rfl)
    have e2 : f_X9_more_ sm p1 = some (-1, mR (mT sm) 2) := by
      unfold f_X9_more_
      rcases q with q | ⟨q, q'⟩
      · exact (if_neg nT).trans ((if_pos q).trans rfl)
      · exact (if_neg nT).trans ((if_neg q).trans ((if_neg (by rw [t3]; exact q')).trans rfl))
    obtain ⟨r, s', sm', g1, g2, g3, g4⟩ := fin_r h (-1) 2 tr2 e1 e2
    exact ⟨r, s', sm', kc, vc, g1, g2, Nat.le_refl _, Nat.le_refl _, g3, g4.kw⟩
theorem st_more (n : Nat) (p1 : Int32) : StpR n (fun cs => fc_more cs p1) (fun sm => f_X9_more_ sm p1) := by
  intro hn cs sm hR
  rcases cs with s | s | ⟨s, h⟩
  · have hR : RN s sm := hR
    obtain ⟨r, s', sm', a, b, c⟩ := fin_n (fN := f_X8_more_N s p1) (fm := f_X9_more_ sm p1) hR (-1) 1 tr1 rfl (if_pos hR.2.2.2.1)
    have e : fc_more (.inl s) p1 = (f_X8_more_N s p1).map fun q => (q.1, csN q.2) := rfl
    exact ⟨r, csN s', sm', by show fc_more (.inl s) p1 = _; rw [e, a]; rfl, b, c⟩
  · obtain ⟨k1, k2, kc, vc, k3⟩ := hR
    obtain ⟨r, s', sm', kc2, vc2, a, b, c1, c2, c, d⟩ := moreB hn k3 p1
    have e : fc_more (.inr (.inl s)) p1 = (f_X8_more_B s p1).map fun q => (q.1, csB q.2) := rfl
    exact ⟨r, csB s', sm', by show fc_more (.inr (.inl s)) p1 = _; rw [e, a]; rfl, b, by rw [← k1]; exact d.1, by rw [← k2]; exact d.2.1, kc2, vc2, c⟩
  · obtain ⟨kc, vc, k3, k4⟩ := hR
    obtain ⟨r, s', sm', kc2, vc2, a, b, c1, c2, c, d⟩ := moreB hn k3 p1
    have e : fc_more (.inr (.inr (s, h))) p1 = (f_X8_more_B s p1).map fun q => (q.1, csS q.2 h) := rfl
    exact ⟨r, csS s' h, sm', by show fc_more (.inr (.inr (s, h))) p1 = _; rw [e, a]; rfl, b, kc2, vc2, c, k4.kw d c1 c2⟩
