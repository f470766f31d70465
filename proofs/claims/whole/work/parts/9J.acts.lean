/-! the calls that change the desk: event, tick, how, bounds -/
theorem RB.put {n kc vc T' : Nat} {s : OuBT} {sm : MoT} {bk' : BkT} {x' : Nat → Int32} (h : RB n kc vc s sm) (hT : T' ≤ 960 * (n + 1)) (hR : RBk 0 kc vc T' (360 * (n + 1)) bk' (Mo_words sm) x') (hF : FrO 0 (Mo_x sm) x') :
    RB (n + 1) kc vc (OuB_w_trouble (OuB_w_books s bk') 0) (mG (mo (mT sm) x')) ∧ KS s sm (OuB_w_trouble (OuB_w_books s bk') 0) (mG (mo (mT sm) x')) := by
  obtain ⟨h1, h2, h3, T, h5, h6⟩ := h
  have e8 : SC sm (mG (mo (mT sm) x')) := ((SC.mT sm).mo x').mG
  have e1 : Mo_x (mG (mo (mT sm) x')) = x' := (x_mG _).trans (mo_x _ _)
  have e3 : Mo_trouble (mG (mo (mT sm) x')) = 0 := trouble_mG _
  have e4 : Mo_wrongAt (mG (mo (mT sm) x')) = m1 := wrongAt_mG _
  generalize mG (mo (mT sm) x') = sm' at e1 e3 e4 e8 ⊢
  obtain ⟨e2, _, _, e6, e7, e5⟩ := id e8
  refine ⟨⟨h1.sc e8, ⟨e3, by rw [e5]; exact h2.2.1, e4⟩, by rw [e6]; exact h3, T', hT, ?_⟩, rfl, e7, e2, fun i h1 h2 => ?_⟩
  · rw [e1, e2]
    exact hR
  · rw [e1]
    exact hF i (by omega)
theorem st_tick (n : Nat) (p1 : Int32) : StpR n (fun cs => fc_tick cs p1) (fun sm => f_X9_tick sm p1) := stp1 (fN := fun s => f_X8_tick_N s p1) (fB := fun s => f_X8_tick_B s p1) (fun _ => rfl) (fun _ => rfl) (fun _ _ => rfl)
  (fun sm s h => fin_n h _ 1 tr1 rfl (if_pos h.2.2.2.1))
  (fun hn sm s kc vc h => by
    have nT := h.nT
    have hh := h
    obtain ⟨_, _, _, T, hT, hR⟩ := hh
    have hR' := hR
    obtain ⟨⟨g, hBd⟩, _⟩ := hR'
    unfold f_X8_tick_B f_X9_tick
    rcases rng p1 9999 (by omega) with ⟨j, hj, rfl, q1, q2⟩ | ⟨q, q'⟩
    · have i0 : f_X8_isTime (nI j) = some 1 := (if_neg q1).trans (if_neg (nI_nlt hj (by omega)))
      have i1 := (inQ (nI j) (m := 9999) (by omega)).1 ⟨j, hj, rfl⟩
      obtain ⟨⟨a, bk'⟩, ⟨a', s1⟩, p1, p2, p3, x', p4, p5, p6, p7, _⟩ := advance2 (b := 0) (t := j) (mT sm) (by omega) hj (by omega) hBd hR
      have p3 : a = a' := p3
      subst p3
      have p4 : s1 = mo (mT sm) x' := p4
      subst p4
      have p2 : f_X9_ticks (mT sm) 0 (nI j) = some (a, mo (mT sm) x') := p2
      exact ⟨a, _, _, eb i0 ((if_neg (by decide)).trans (eb p1 rfl)), (if_neg nT).trans (eb i1 ((if_neg (by decide)).trans (eb p2 rfl))), h.put (T' := T) (by omega) (p6.mono (by omega)) p7⟩
    · have i1 := (inQ p1 (m := 9999) (by omega)).2 q
      have i0 : f_X8_isTime p1 = some 0 := by
        unfold f_X8_isTime
        rcases q with q | q
        · exact if_pos q
        · exact (if_neg (ge2 q (by omega)).1).trans (if_pos (ge2 q (by omega)).2.2)
      exact fin_r h _ 2 tr2 (eb i0 rfl) ((if_neg nT).trans (eb i1 rfl)))
theorem how_ok (p : Int32) : (∃ j, j < 4 ∧ p = nI j ∧ f_X8_isHow p = some 1 ∧ f_X9_in p 0 3 = some 1) ∨ (f_X8_isHow p = some 0 ∧ f_X9_in p 0 3 = some 0) := by
  rcases rng p 3 (by omega) with ⟨j, hj, rfl, q1, q2⟩ | ⟨q, q'⟩
  · exact Or.inl ⟨j, by omega, rfl, (if_neg q1).trans (if_neg (nI_nlt hj (by omega))), (inQ (nI j) (m := 3) (by omega)).1 ⟨j, hj, rfl⟩⟩
  · refine Or.inr ⟨?_, (inQ p (m := 3) (by omega)).2 q⟩
    unfold f_X8_isHow
    rcases q with q | q
    · exact if_pos q
    · exact (if_neg (ge2 q (by omega)).1).trans (if_pos (ge2 q (by omega)).2.2)
theorem st_how (n : Nat) (p1 : Int32) : StpR n (fun cs => fc_how cs p1) (fun sm => f_X9_how sm p1) := stp1 (fN := fun s => f_X8_how_N s p1) (fB := fun s => f_X8_how_B s p1) (fun _ => rfl) (fun _ => rfl) (fun _ _ => rfl)
  (fun sm s h => fin_n h _ 1 tr1 rfl (if_pos h.2.2.2.1))
  (fun hn sm s kc vc h => by
    have nT := h.nT
    have hh := h
    obtain ⟨_, _, _, T, hT, hR⟩ := hh
    have hR' := hR
    obtain ⟨⟨g, hBd⟩, _⟩ := hR'
    unfold f_X8_how_B f_X9_how
    rcases how_ok p1 with ⟨j, hj, rfl, a, b⟩ | ⟨a, b⟩
    · obtain ⟨ans, bk', x', T', e1, e2, e3, e4, e5, e6⟩ := how2 (mT sm) hj (by omega) (by omega) hBd hR (fun r15 => (f_X9_good (r15.2) (r15.1)).bind fun r17 => some ((r17.1), (r17.2)))
      exact ⟨ans, _, _, eb a ((if_neg (by decide)).trans (eb e1 rfl)), (if_neg nT).trans (eb b ((if_neg (by decide)).trans e6)), h.put (T' := T') (by omega) (e4.mono (by omega)) e5⟩
    · exact fin_r h _ 2 tr2 (eb a rfl) ((if_neg nT).trans (eb b rfl)))
theorem st_bounds (n : Nat) (p1 p2 : Int32) : StpR n (fun cs => fc_bounds cs p1 p2) (fun sm => f_X9_bounds sm p1 p2) := stp1 (fN := fun s => f_X8_bounds_N s p1 p2) (fB := fun s => f_X8_bounds_B s p1 p2) (fun _ => rfl) (fun _ => rfl) (fun _ _ => rfl)
  (fun sm s h => fin_n h _ 1 tr1 rfl (eg ((if_pos h.2.2.2.1).trans ((if_neg (by decide)).trans rfl))))
  (fun hn sm s kc vc h => by
    have nT := h.nT
    have hh := h
    obtain ⟨_, _, _, T, hT, hR⟩ := hh
    have bad : ∀ (A : f_X9_bounds sm p1 p2 = some (0, mR (mT sm) 2)) (C : f_X8_bounds_B s p1 p2 = some (0, OuB_w_trouble s 2)), ∃ r s' sm', f_X8_bounds_B s p1 p2 = some (r, s') ∧ f_X9_bounds sm p1 p2 = some (r, sm') ∧ RB (n + 1) kc vc s' sm' ∧ KS s sm s' sm' := fun A C => fin_r h _ 2 tr2 C A
    have lo : ¬ (1 : Int32) ≤ p1 ↔ p1 < 1 := Int32.not_le
    rcases rng p1 999 (by omega) with ⟨j, hj, rfl, q1, q2⟩ | ⟨q, q'⟩
    · by_cases j0 : j = 0
      · subst j0
        refine bad ?_ ?_
        · exact eg ((if_neg nT).trans (eb (a := 0) rfl ((if_pos rfl).trans ((if_neg (by decide)).trans rfl))))
        · exact eg ((if_pos (by decide)).trans rfl)
      · have l1 : ¬ nI j < (1 : Int32) := nI_nlt (b := 1) (by omega) (by omega)
        have l2 : ¬ (999 : Int32) < nI j := nI_nlt (a := 999) (by omega) (by omega)
        have i1 : f_X9_in (nI j) 1 999 = some 1 := (if_neg l1).trans (if_neg l2)
        rcases rng p2 999 (by omega) with ⟨v, hv, rfl, w1, w2⟩ | ⟨w, w'⟩
        · have i2 := (inQ (nI v) (m := 999) (by omega)).1 ⟨v, hv, rfl⟩
          have s1 : f_X9_set (mT sm) 0 1 (nI j) = some (mo (mT sm) (upd (Mo_x sm) (6571 * 0 + 1) (nI j))) := r_set (mT sm) (Mo_x sm) (b := 0) (i := 1) (nI j) (by omega) (by omega)
          have s2 : f_X9_set (mo (mT sm) (upd (Mo_x sm) (6571 * 0 + 1) (nI j))) 0 2 (nI v) = some (mo (mT sm) (upd (upd (Mo_x sm) (6571 * 0 + 1) (nI j)) (6571 * 0 + 2) (nI v))) := r_set (mT sm) _ (b := 0) (i := 2) (nI v) (by omega) (by omega)
          refine ⟨1, _, _, eg ((if_neg l1).trans ((if_neg l2).trans ((if_neg w1).trans ((if_pos w2).trans rfl)))), eg ((if_neg nT).trans (eb i1 ((if_neg (by decide)).trans (eb i2 ((if_neg (by decide)).trans ((if_pos (by decide)).trans (eb s1 (eb s2 rfl)))))))), h.put (T' := T) (by omega) ?_ ?_⟩
          · obtain ⟨⟨g, a1, a2, a3, a4, a5, a6, a7⟩, h2, h3, h4, h5, h6, h7, h8, h9⟩ := hR
            have e : ∀ i, i ≠ 1 → i ≠ 2 → upd (upd (Mo_x sm) (6571 * 0 + 1) (nI j)) (6571 * 0 + 2) (nI v) i = Mo_x sm i := fun i e1 e2 => by rw [un (by omega), un (by omega)]
            refine RBk.mono (B := 360 * n) ⟨⟨g, fun i hi => by unfold xn; rw [e _ (by omega) (by omega)]; exact a1 i hi, a2, by rw [e _ (by omega) (by omega)]; exact a3, a4, fun i hi => by rw [e _ (by omega) (by omega)]; exact a5 i hi, RL_fr a6 (fun i hi => e _ (by omega) (by omega)), fun k l r p1 p2 p3 => by rw [e _ (by omega) (by omega)]; exact a7 k l r p1 p2 p3⟩, h2.fr (e _ (by omega) (by omega)) (e _ (by omega) (by omega)), h3.fr (fun i _ _ => e _ (by omega) (by omega)), ?_, ?_, ⟨h6.1, fun k l r p1 p2 p3 p4 => h6.2 k l r p1 p2 p3 (by rw [e _ (by omega) (by omega)] at p4; exact p4)⟩, h7.fr (e _ (by omega) (by omega)) (fun i _ _ => e _ (by omega) (by omega)), h8.fr (Nat.le_refl _) (fun i _ _ => e _ (by omega) (by omega)), h9⟩ (by omega)
            · intro k hk
              rw [e _ (by omega) (by omega), e _ (by omega) (by omega)]
              exact h4 k hk
            · obtain ⟨_, _, ⟨ck, r1, r2, r3⟩, f4, f5, f6⟩ := h5
              exact ⟨⟨j, hj, rfl, by rw [un (by omega), us]⟩, ⟨v, hv, rfl, by rw [us]⟩, ⟨ck, r1, r2, by rw [e _ (by omega) (by omega)]; exact r3⟩, by rw [e _ (by omega) (by omega)]; exact f4, by rw [e _ (by omega) (by omega)]; exact f5, fun k hk => by rw [e _ (by omega) (by omega)]; exact f6 k hk⟩
          · intro i hi
            rw [un (by omega), un (by omega)]
        · have i2 := (inQ p2 (m := 999) (by omega)).2 w
          refine bad ?_ ?_
          · exact eg ((if_neg nT).trans (eb i1 ((if_neg (by decide)).trans (eb i2 ((if_pos rfl).trans ((if_neg (by decide)).trans rfl))))))
          · rcases w' with w' | ⟨w1, w2⟩
            · exact eg ((if_neg l1).trans ((if_neg l2).trans ((if_pos w').trans rfl)))
            · exact eg ((if_neg l1).trans ((if_neg l2).trans ((if_neg w1).trans ((if_neg w2).trans rfl))))
    · have i1 : f_X9_in p1 1 999 = some 0 := by
        unfold f_X9_in
        rcases q with q | q
        · exact if_pos (by rw [ltI] at q ⊢; have : (0 : Int32).toInt = 0 := rfl; have : (1 : Int32).toInt = 1 := rfl; omega)
        · have q3 := (ge2 q (by omega)).2.2
          by_cases q4 : p1 < 1
          · exact if_pos q4
          · exact (if_neg q4).trans (if_pos q3)
      refine bad ?_ ?_
      · exact eg ((if_neg nT).trans (eb i1 ((if_pos rfl).trans ((if_neg (by decide)).trans rfl))))
      · by_cases q4 : p1 < 1
        · exact eg ((if_pos q4).trans rfl)
        · rcases q with q | q
          · exact absurd (by rw [ltI] at q ⊢; have : (0 : Int32).toInt = 0 := rfl; have : (1 : Int32).toInt = 1 := rfl; omega) q4
          · exact eg ((if_neg q4).trans ((if_pos (ge2 q (by omega)).2.2).trans rfl)))
theorem ref2 {n kc vc : Nat} {s : OuBT} {sm : MoT} (h : RB n kc vc s sm) (p1 p2 p3 p4 p5 : Int32) :
    (∃ sd k v t, sd < 2 ∧ k < kc ∧ v < vc ∧ t ≤ 9999 ∧ p1 = nI sd ∧ p2 = nI k ∧ p3 = nI v ∧ p5 = nI t ∧ -9 ≤ p4.toInt ∧ p4.toInt ≤ 9 ∧ f_X8_refusalOfEvent_B s p1 p2 p3 p4 p5 = some 0 ∧ f_X9_refusesEvent (mT sm) p1 p2 p3 p4 p5 = some 0) ∨
    (∃ w : Int32, w ≠ nI 4 ∧ ¬ w = 0 ∧ ¬ w ≤ 0 ∧ f_X8_refusalOfEvent_B s p1 p2 p3 p4 p5 = some w ∧ f_X9_refusesEvent (mT sm) p1 p2 p3 p4 p5 = some w) := by
  unfold f_X8_refusalOfEvent_B f_X9_refusesEvent
  rcases side2 p1 with ⟨sd, hs, rfl, a, b⟩ | ⟨a, b⟩
  · rcases key2 h p2 with ⟨k, hk, hk8, rfl, c, d⟩ | ⟨c, d⟩
    · rcases val2 h p3 with ⟨v, hv, hv8, rfl, e, f⟩ | ⟨e, f⟩
      · have two : (2 : Int32) ≠ nI 4 ∧ ¬ (2 : Int32) = 0 ∧ ¬ (2 : Int32) ≤ 0 := by decide
        have m9 : (-9 : Int32).toInt = -9 := rfl
        have n9 : (9 : Int32).toInt = 9 := rfl
        have cc : ∀ {A B : Option Int32}, A = B → ((f_X8_isSide (nI sd)).bind fun r1 => if r1 = 0 then some ((1 : Int32)) else (f_X8_isKey_B s (nI k)).bind fun r4 => if r4 = 0 then some ((1 : Int32)) else (f_X8_isValue_B s (nI v)).bind fun r7 => if r7 = 0 then some ((1 : Int32)) else A) = B := fun g => eb a ((if_neg (by decide)).trans (eb c ((if_neg (by decide)).trans (eb e ((if_neg (by decide)).trans g)))))
        have rr : ∀ {A B : Option Int32}, A = B → ((f_X9_isSide (nI sd)).bind fun r1 => if r1 = 0 then some ((1 : Int32)) else (f_X9_isKey (mT sm) (nI k)).bind fun r4 => if r4 = 0 then some ((1 : Int32)) else (f_X9_isValue (mT sm) (nI v)).bind fun r7 => if r7 = 0 then some ((1 : Int32)) else A) = B := fun g => eb b ((if_neg (by decide)).trans (eb d ((if_neg (by decide)).trans (eb f ((if_neg (by decide)).trans g)))))
        by_cases z : p4 = 0
        · subst z
          exact Or.inr ⟨2, two.1, two.2.1, two.2.2, cc ((if_neg (by decide)).trans ((if_neg (by decide)).trans (if_pos rfl))), rr (if_pos rfl)⟩
        · by_cases z1 : p4 < (-9 : Int32)
          · have i1 : f_X9_in p4 (-9) 9 = some 0 := if_pos z1
            exact Or.inr ⟨2, two.1, two.2.1, two.2.2, cc (if_pos z1), rr ((if_neg z).trans (eb i1 rfl))⟩
          · by_cases z2 : (9 : Int32) < p4
            · have i1 : f_X9_in p4 (-9) 9 = some 0 := (if_neg z1).trans (if_pos z2)
              exact Or.inr ⟨2, two.1, two.2.1, two.2.2, cc ((if_neg z1).trans (if_pos z2)), rr ((if_neg z).trans (eb i1 rfl))⟩
            · have i1 : f_X9_in p4 (-9) 9 = some 1 := (if_neg z1).trans (if_neg z2)
              rcases rng p5 9999 (by omega) with ⟨t, ht, rfl, q1, q2⟩ | ⟨q, q'⟩
              · have i0 : f_X8_isTime (nI t) = some 1 := (if_neg q1).trans (if_neg (nI_nlt ht (by omega)))
                have i2 := (inQ (nI t) (m := 9999) (by omega)).1 ⟨t, ht, rfl⟩
                refine Or.inl ⟨sd, k, v, t, hs, hk, hv, ht, rfl, rfl, rfl, rfl, ?_, ?_, cc ((if_neg z1).trans ((if_neg z2).trans ((if_neg z).trans (eb i0 rfl)))), rr ((if_neg z).trans (eb i1 ((if_neg (by decide)).trans (eb i2 rfl))))⟩
                · rw [ltI] at z1; omega
                · rw [ltI] at z2; omega
              · have i2 := (inQ p5 (m := 9999) (by omega)).2 q
                have i0 : f_X8_isTime p5 = some 0 := by
                  unfold f_X8_isTime
                  rcases q with q | q
                  · exact if_pos q
                  · exact (if_neg (ge2 q (by omega)).1).trans (if_pos (ge2 q (by omega)).2.2)
                exact Or.inr ⟨2, two.1, two.2.1, two.2.2, cc ((if_neg z1).trans ((if_neg z2).trans ((if_neg z).trans (eb i0 rfl)))), rr ((if_neg z).trans (eb i1 ((if_neg (by decide)).trans (eb i2 rfl))))⟩
      · exact Or.inr ⟨1, by decide, by decide, by decide, eb a ((if_neg (by decide)).trans (eb c ((if_neg (by decide)).trans (eb e rfl)))), eb b ((if_neg (by decide)).trans (eb d ((if_neg (by decide)).trans (eb f rfl))))⟩
    · exact Or.inr ⟨1, by decide, by decide, by decide, eb a ((if_neg (by decide)).trans (eb c rfl)), eb b ((if_neg (by decide)).trans (eb d rfl))⟩
  · exact Or.inr ⟨1, by decide, by decide, by decide, eb a rfl, eb b rfl⟩
theorem nRef {s : OuNT} {sm : MoT} (h : RN s sm) (p1 p2 p3 p4 p5 : Int32) : f_X8_refusalOfEvent_N s p1 p2 p3 p4 p5 = some 1 ∧ f_X9_refusesEvent (mT sm) p1 p2 p3 p4 p5 = some 1 := by
  unfold f_X8_refusalOfEvent_N f_X9_refusesEvent
  rcases side2 p1 with ⟨j, _, _, a, b⟩ | ⟨a, b⟩
  · exact ⟨eb a rfl, eb b ((if_neg (by decide)).trans (eb (nKey h p2) rfl))⟩
  · exact ⟨eb a rfl, eb b rfl⟩
theorem st_event (n : Nat) (p1 p2 p3 p4 p5 : Int32) : StpR n (fun cs => fc_event cs p1 p2 p3 p4 p5) (fun sm => f_X9_event sm p1 p2 p3 p4 p5) := stp1 (fN := fun s => f_X8_event_N s p1 p2 p3 p4 p5) (fB := fun s => f_X8_event_B s p1 p2 p3 p4 p5) (fun _ => rfl) (fun _ => rfl) (fun _ _ => rfl)
  (fun sm s h => fin_n h _ 1 tr1 (eb (nRef h p1 p2 p3 p4 p5).1 rfl) (eb (nRef h p1 p2 p3 p4 p5).2 rfl))
  (fun hn sm s kc vc h => by
    have hh := h
    obtain ⟨_, _, _, T, hT, hR⟩ := hh
    have hR' := hR
    obtain ⟨⟨g, hBd⟩, _⟩ := hR'
    unfold f_X8_event_B f_X9_event
    rcases ref2 h p1 p2 p3 p4 p5 with ⟨sd, k, v, t, h1, h2, h3, h4, rfl, rfl, rfl, rfl, h5, h6, a, b⟩ | ⟨w, w1, w2, w3, a, b⟩
    · obtain ⟨⟨ans, bk'⟩, ⟨a', s1⟩, e1, e2, e3, x', T', e4, e5, e6, e7, e8, _⟩ := happen2 (mT sm) (show 0 < 3 by omega) h1 h2 h3 h4 h5 h6 (by omega) (by omega) hBd hR
      have e3 : ans = a' := e3
      subst e3
      have e4 : s1 = mo (mT sm) x' := e4
      subst e4
      have e2 : f_X9_does (mT sm) 0 (nI sd) (nI k) (nI v) p4 (nI t) = some (ans, mo (mT sm) x') := e2
      exact ⟨ans, _, _, eb a ((if_pos rfl).trans (eb e1 rfl)), eb b ((if_pos (by decide)).trans (eb e2 rfl)), h.put (T' := T') (by omega) (e7.mono (by omega)) e8⟩
    · exact fin_r h _ w w1 (eb a ((if_neg w2).trans rfl)) (eb b ((if_neg w3).trans rfl)))
