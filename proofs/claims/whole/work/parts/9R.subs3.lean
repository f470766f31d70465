theorem w648 (w : Nat) : nI w * (648 : Int32) = nI (648 * w) := by
  rw [show (648 : Int32) = nI 648 from rfl, pk_mul, Nat.mul_comm]
theorem st_pull (n : Nat) (p1 : Int32) : StpR n (fun cs => fc_pull cs p1) (fun sm => f_X9_pull sm p1) := stp1 (fN := fun s => f_X8_pull_N s p1) (fB := fun s => f_X8_pull_B s p1) (fun _ => rfl) (fun _ => rfl) (fun _ _ => rfl)
  (fun sm s h => fin_n h _ 1 tr1 rfl (eb (a := 0) (if_pos h.2.2.2.1) rfl))
  (fun hn sm s kc vc h => by
    unfold f_X8_pull_B f_X9_pull
    rcases sub2 hn h p1 with ⟨w, hw, rfl, a, b, T, sn, hs, hT, hR, e1, e2, e3⟩ | ⟨a, b⟩
    · obtain ⟨sb', c1, c2, c3, c4⟩ := c_catch (Bk_subscribers (OuB_books s)) (Bk_board (OuB_books s)) hw
      have r1 := r_looks (mT sm) (Mo_x sm) (Bd_sums (Bk_board (OuB_books s))) hw (fun y hy => h.sat hn (mT sm) y hy)
      have ct := c_count (N := 2592) (o := 648 * w) (Sb_differences sb') (by omega) (by omega)
      have ef : ∀ r, r < 648 → Sb_differences sb' (648 * w + r) = Bd_sums (Bk_board (OuB_books s)) r - Mo_x sm (1379 + 1298 * w + 2 + r) := fun r hr => by
        rw [c4, if_pos (by omega), (e3 r hr).1, show 648 * w + r - 648 * w = r by omega]
        congr 2
        omega
      rw [pre_congr 648 ef] at ct
      have r1 : f_X9_looks (mT sm) (nI w) = _ := r1
      have tot : Lg_total (Bd_ledger (Bk_board (OuB_books s))) = nI T := by
        obtain ⟨⟨g, hBd⟩, _⟩ := hR
        exact hBd.2.2.2.2.2.1.2.1
      have x11 : Mo_x sm 11 = nI T := by
        obtain ⟨⟨g, hBd⟩, _⟩ := hR
        exact hBd.2.2.2.2.2.1.2.2.1
      rw [w648]
      refine ⟨_, _, _, eb a ((if_neg (by decide)).trans (eb c1 (eb ct rfl))), eb b ((if_neg (by decide)).trans (eb r1 rfl)), h.sub hT hR (fun i hi => ?_) (fun w' hw' => ?_)⟩
      · rw [un (by omega)]
        unfold lkX
        rw [if_neg (by omega), if_neg (by omega)]
      · by_cases e : w' = w
        · subst e
          refine Or.inr ⟨T, Nat.le_refl _, by rw [c2, us, tot], ?_, ?_, fun r hr => ⟨?_, ?_⟩⟩
          · rw [un (by omega)]
            unfold lkX
            rw [if_neg (by omega), if_neg (by omega)]
            have hSb := hR.2.2.2.2.2.2.2.1 w' hw'
            rcases hSb with ⟨z, _⟩ | ⟨_, _, _, z, _⟩
            · rw [e1] at z
              exact absurd z (fun e => (m1E (n := sn) (by omega)).mp e)
            · exact z
          · rw [ue (by omega)]
            exact x11
          · rw [c3, if_pos (by omega), un (by omega)]
            unfold lkX
            rw [if_pos (by omega)]
            congr 1
            omega
          · rw [ef r hr, un (by omega)]
            unfold lkX
            rw [if_neg (by omega), if_pos (by omega), show 6571 * 0 + (1379 + 1298 * w' + (650 + r)) - (1379 + 1298 * w' + 650) = r by omega, show 6571 * 0 + (1379 + 1298 * w' + (650 + r)) - 648 = 1379 + 1298 * w' + 2 + r by omega]
        · have lk : ∀ i, 6571 * 0 + (1379 + 1298 * w') ≤ i → i < 6571 * 0 + (1379 + 1298 * w' + 1298) → upd (lkX (Mo_x sm) (Bd_sums (Bk_board (OuB_books s))) w 648) (1379 + 1298 * w + 1) (Mo_x sm 11) i = Mo_x sm i := fun i i1 i2 => by
            rw [un (by omega)]
            unfold lkX
            rw [if_neg (by omega), if_neg (by omega)]
          rw [c2, un e]
          rcases hR.2.2.2.2.2.2.2.1 w' hw' with ⟨z1, z2⟩ | ⟨s2, z1, z2, z3, z4, z5⟩
          · exact Or.inl ⟨z1, by rw [lk _ (by omega) (by omega)]; exact z2⟩
          · refine Or.inr ⟨s2, z1, z2, by rw [lk _ (by omega) (by omega)]; exact z3, by rw [lk _ (by omega) (by omega)]; exact z4, fun r hr => ⟨?_, ?_⟩⟩
            · rw [c3, if_neg (by omega), lk _ (by omega) (by omega)]
              exact (z5 r hr).1
            · rw [c4, if_neg (by omega), lk _ (by omega) (by omega)]
              exact (z5 r hr).2
    · exact fin_r h _ 1 tr1 (eb a rfl) (eb b rfl))
theorem st_held (n : Nat) (p1 p2 p3 p4 : Int32) : StpR n (fun cs => fc_held cs p1 p2 p3 p4) (fun sm => f_X9_held sm p1 p2 p3 p4) := stp1 (fN := fun s => f_X8_held_N s p1 p2 p3 p4) (fB := fun s => f_X8_held_B s p1 p2 p3 p4) (fun _ => rfl) (fun _ => rfl) (fun _ _ => rfl)
  (fun sm s h => fin_n h _ 1 tr1 rfl (eb (a := 0) (if_pos h.2.2.2.1) rfl))
  (fun hn sm s kc vc h => by
    unfold f_X8_held_B f_X9_held
    rcases sub2 hn h p1 with ⟨w, hw, rfl, a, b, T, sn, hs, hT, hR, e1, e2, e3⟩ | ⟨a, b⟩
    · rcases row2 h p2 p3 p4 with ⟨k, l, r, _, h1, h2, h3, h4, rfl, rfl, rfl, c, d, c5, d5⟩ | ⟨c, d⟩
      · have hp := c_pl h1 h2 h3
        have er := (e3 (81 * k + 9 * l + r) (by omega)).1
        have hI : inb (nI (648 * w + (81 * k + 9 * l + r))) 2592 := inbN (by omega) (by omega)
        have es : ((2 : Int32) + (((nI k * (9 : Int32)) + nI l) * (9 : Int32))) + nI r = nI (2 + (81 * k + 9 * l + r)) := by
          simp (disch := omega) only [li_0, li_1, li_2, li_3, li_4, li_5, li_6, li_7, li_8, li_9, li_10, li_11, li_12, li_13, li_14, li_15, li_16, li_20, li_30, li_31, li_32, li_40, li_42, li_45, li_48, li_57, li_58, li_59, li_60, li_64, li_74, li_75, li_81, li_97, li_122, li_124, li_143, li_151, li_159, li_167, li_175, li_200, li_255, li_648, li_650, li_823, li_900, li_999, li_1123, li_1298, li_1363, li_1379, li_2592, li_6571, li_9999, li_65536, li_65537, ng1, ng2, nI_add, pk_mul, remN, divN, inbI, ixN, leN, ltN, eqN, m1E, m1E', m2E, m12, m21, bsm, glE, b2iT, b2iF, if_pos, if_neg, ite_true, ite_false, not_true, not_false_iff, reduceCtorEq]
          omega
        refine fin_g h (Mo_x sm (1379 + 1298 * w + (2 + (81 * k + 9 * l + r)))) (eb a ((if_neg (by decide)).trans (eb c ((if_neg (by decide)).trans (eb hp ?_))))) (eb b ((if_neg (by decide)).trans (eb d ((if_neg (by decide)).trans (eb c5 (eb d5 ?_))))))
        · rw [w648, nI_add, ixN (by omega), er]
          exact (if_pos hI).trans rfl
        · rw [es]
          exact eb (r_subAt w _) (eb (gTx sm (by omega)) rfl)
      · exact fin_r h _ 1 tr1 (eb a ((if_neg (by decide)).trans (eb c rfl))) (eb b ((if_neg (by decide)).trans (eb d rfl)))
    · exact fin_r h _ 1 tr1 (eb a rfl) (eb b rfl))
theorem r_diffs (m : MoT) (x : Nat → Int32) {w : Nat} (hw : w < 4) : f_X9_differences (mo m x) (nI w) = some (nI (pre (fun r => x (1379 + 1298 * w + (650 + r))) 648)) := by
  unfold f_X9_differences
  rw [glE]
  refine lpc (L := fun n i c => f_X9_differences_L4_5 (mo m x) (nI w) (fun x => some x) n c i) (K := fun x => some x) 648 (fun r => nI (pre (fun r => x (1379 + 1298 * w + (650 + r))) r)) ?_ ?_ (by omega)
  · intro n
    show f_X9_differences_L4_5 (mo m x) (nI w) (fun x => some x) (n + 1) _ (nI 648) = _
    rw [f_X9_differences_L4_5]
    exact if_pos (by decide)
  · intro n r hr
    show f_X9_differences_L4_5 (mo m x) (nI w) (fun x => some x) (n + 1) (nI (pre (fun r => x (1379 + 1298 * w + (650 + r))) r)) (nI r) = f_X9_differences_L4_5 (mo m x) (nI w) (fun x => some x) n (nI (if x (1379 + 1298 * w + (650 + r)) = nI 0 then pre (fun r => x (1379 + 1298 * w + (650 + r))) r else pre (fun r => x (1379 + 1298 * w + (650 + r))) r + 1)) (nI (r + 1))
    rw [f_X9_differences_L4_5, show (650 : Int32) + nI r = nI (650 + r) from nI_add 650 r, show nI r + (1 : Int32) = nI (r + 1) from nI_1 r, show nI (pre (fun r => x (1379 + 1298 * w + (650 + r))) r) + (0 : Int32) = nI (pre (fun r => x (1379 + 1298 * w + (650 + r))) r) from z1 _, show nI (pre (fun r => x (1379 + 1298 * w + (650 + r))) r) + (1 : Int32) = nI (pre (fun r => x (1379 + 1298 * w + (650 + r))) r + 1) from nI_1 _]
    refine (if_neg (nI_ge hr (by omega))).trans (eb (r_subAt w _) (eb (gXx m x (by omega)) ?_))
    by_cases q : x (1379 + 1298 * w + (650 + r)) = nI 0
    · rw [if_pos q]
      exact if_pos q
    · rw [if_neg q]
      exact if_neg q
theorem st_pulled (n : Nat) (p1 p2 p3 : Int32) : StpR n (fun cs => fc_pulled cs p1 p2 p3) (fun sm => f_X9_pulled sm p1 p2 p3) := stp1 (fN := fun s => f_X8_pulled_N s p1 p2 p3) (fB := fun s => f_X8_pulled_B s p1 p2 p3) (fun _ => rfl) (fun _ => rfl) (fun _ _ => rfl)
  (fun sm s h => fin_n h _ 1 tr1 rfl (eb (a := 0) (if_pos h.2.2.2.1) rfl))
  (fun hn sm s kc vc h => by
    unfold f_X8_pulled_B f_X9_pulled
    rcases sub2 hn h p1 with ⟨w, hw, rfl, a, b, T, sn, hs, hT, hR, e1, e2, e3⟩ | ⟨a, b⟩
    · rcases rng p3 3 (by omega) with ⟨j, hj, rfl, q1, q2⟩ | ⟨q, q'⟩
      · have i1 := (inQ (nI j) (m := 3) (by omega)).1 ⟨j, hj, rfl⟩
        have rd : f_X9_differences (mT sm) (nI w) = _ := r_diffs (mT sm) (Mo_x sm) hw
        have ef : ∀ r, r < 648 → Sb_differences (Bk_subscribers (OuB_books s)) (648 * w + r) = Mo_x sm (1379 + 1298 * w + (650 + r)) := fun r hr => (e3 r hr).2
        have ep : pre (fun r => Sb_differences (Bk_subscribers (OuB_books s)) (648 * w + r)) 648 = pre (fun r => Mo_x sm (1379 + 1298 * w + (650 + r))) 648 := pre_congr 648 ef
        have pl := pre_le (fun r => Mo_x sm (1379 + 1298 * w + (650 + r))) 648
        obtain ⟨cf1, cf2⟩ := c_filled (N := 2592) (o := 648 * w) (Sb_differences (Bk_subscribers (OuB_books s))) p2 (by omega) (by omega)
        rw [w648]
        rcases inP p2 (c := pre (fun r => Mo_x sm (1379 + 1298 * w + (650 + r))) 648) (by omega) with ⟨i, hi, rfl, e⟩ | ⟨q, e⟩
        · obtain ⟨r, hr, hne, hpr⟩ := pre_at (fun r => Mo_x sm (1379 + 1298 * w + (650 + r))) 648 hi
          have hne' : Mo_x sm (1379 + 1298 * w + (650 + r)) ≠ nI 0 := hne
          have cf := cf1 i r rfl hr (by rw [ef r hr]; exact hne) (by rw [pre_congr r (fun i hi => ef i (by omega))]; exact hpr)
          have hI : inb (nI (648 * w + r)) 2592 := inbN (by omega) (by omega)
          have loop : ∀ (K : Int32 → Option (Int32 × MoT)), f_X9_pulled_L49_39 sm (nI w) K 10000 0 (nI i) = K (nI r) := by
            intro K
            refine lp (L := fun n j c => f_X9_pulled_L49_39 sm (nI w) K n j c) 648 (fun j c => j ≤ r ∧ c = nI (i - pre (fun r => Mo_x sm (1379 + 1298 * w + (650 + r))) j)) (fun o => o = K (nI r)) ?_ ?_ 10000 0 (nI i) (by omega) (by omega) ⟨by omega, rfl⟩
            · rintro n c ⟨z, _⟩
              omega
            · rintro n j c hj ⟨hjr, rfl⟩
              have sa := r_subAt w (650 + j)
              have ga := gTx sm (i := 1379 + 1298 * w + (650 + j)) (by omega)
              have p1 := pre_mono (fun r => Mo_x sm (1379 + 1298 * w + (650 + r))) (a := j) r hjr
              have p2 := pre_le (fun r => Mo_x sm (1379 + 1298 * w + (650 + r))) r
              have es : pre (fun r => Mo_x sm (1379 + 1298 * w + (650 + r))) (j + 1) = (if Mo_x sm (1379 + 1298 * w + (650 + j)) = nI 0 then pre (fun r => Mo_x sm (1379 + 1298 * w + (650 + r))) j else pre (fun r => Mo_x sm (1379 + 1298 * w + (650 + r))) j + 1) := rfl
              show f_X9_pulled_L49_39 sm (nI w) K (n + 1) (nI j) _ = _ ∨ ∃ s', _ ∧ f_X9_pulled_L49_39 sm (nI w) K (n + 1) (nI j) _ = f_X9_pulled_L49_39 sm (nI w) K n (nI (j + 1)) s'
              rw [f_X9_pulled_L49_39, show (650 : Int32) + nI j = nI (650 + j) from nI_add 650 j, show nI j + (1 : Int32) = nI (j + 1) from nI_1 j]
              by_cases ejr : j = r
              · subst ejr
                refine Or.inl (eg ?_)
                rw [hpr, Nat.sub_self]
                exact (if_neg (by decide)).trans (eb sa (eb ga (if_neg hne')))
              · refine Or.inr ⟨nI (i - pre (fun r => Mo_x sm (1379 + 1298 * w + (650 + r))) (j + 1)), ⟨by omega, rfl⟩, eg ?_⟩
                by_cases z : Mo_x sm (1379 + 1298 * w + (650 + j)) = nI 0
                · rw [es, if_pos z]
                  have body : ((f_X9_subAt (nI w) (nI (650 + j))).bind fun r42 => (f_X9_get (Mo_w_thrown sm (0 : Int32)) (0 : Int32) r42).bind fun r44 => if r44 = 0 then f_X9_pulled_L49_39 sm (nI w) K n (nI (j + 1)) (nI (i - pre (fun r => Mo_x sm (1379 + 1298 * w + (650 + r))) j) - (0 : Int32)) else f_X9_pulled_L49_39 sm (nI w) K n (nI (j + 1)) (nI (i - pre (fun r => Mo_x sm (1379 + 1298 * w + (650 + r))) j) - (1 : Int32))) = f_X9_pulled_L49_39 sm (nI w) K n (nI (j + 1)) (nI (i - pre (fun r => Mo_x sm (1379 + 1298 * w + (650 + r))) j)) := by
                    rw [show nI (i - pre (fun r => Mo_x sm (1379 + 1298 * w + (650 + r))) j) - (0 : Int32) = nI (i - pre (fun r => Mo_x sm (1379 + 1298 * w + (650 + r))) j) from z4 _]
                    exact eb sa (eb ga (if_pos z))
                  by_cases zz : 0 < i - pre (fun r => Mo_x sm (1379 + 1298 * w + (650 + r))) j
                  · exact (if_pos (nI_lt (a := 0) zz (by omega))).trans body
                  · exact (if_neg (nI_nlt (b := i - pre (fun r => Mo_x sm (1379 + 1298 * w + (650 + r))) j) (a := 0) (by omega) (by omega))).trans (eb sa (eb ga ((if_pos z).trans body)))
                · have l1 := pre_lt (f := fun r => Mo_x sm (1379 + 1298 * w + (650 + r))) (r := j) (n := r) (by omega) z
                  rw [es, if_neg z]
                  refine (if_pos (nI_lt (a := 0) (by omega) (by omega))).trans (eb sa (eb ga ((if_neg z).trans ?_)))
                  rw [show nI (i - pre (fun r => Mo_x sm (1379 + 1298 * w + (650 + r))) j) - (1 : Int32) = nI (i - (pre (fun r => Mo_x sm (1379 + 1298 * w + (650 + r))) j + 1)) from by rw [show (1 : Int32) = nI 1 from rfl, subN (by omega)]; congr 1]
          have nr1 : ¬ nI r = (-1 : Int32) := fun e => (m1E (n := r) (by omega)).mp e
          have er : 81 * (r / 81) + 9 * (r / 9 % 9) + r % 9 = r := by omega
          obtain ⟨pt0, pt1, pt2, pt3⟩ := part2 (k := r / 81) (l := r / 9 % 9) (r := r % 9) (by omega) (by omega) (by omega) (Sb_differences (Bk_subscribers (OuB_books s)) (648 * w + r))
          rw [er] at pt0 pt1 pt2 pt3
          have d81 : nI r / (81 : Int32) = nI (r / 81) := divN (d := 81) (by omega) (by omega) (by omega)
          have d9 : nI r / (9 : Int32) = nI (r / 9) := divN (d := 9) (by omega) (by omega) (by omega)
          have m9 : irem (nI (r / 9)) (9 : Int32) = nI (r / 9 % 9) := remN (d := 9) (by omega) (by omega) (by omega)
          have m9' : irem (nI r) (9 : Int32) = nI (r % 9) := remN (d := 9) (by omega) (by omega) (by omega)
          have preC : ∀ v, f_X8_partOfRow (nI r) (nI j) (Sb_differences (Bk_subscribers (OuB_books s)) (648 * w + r)) = some v → ((f_X8_isSubscribed_B s (nI w)).bind fun r1 => if r1 = 0 then (f_X8_refuse_B s (1 : Int32) (-2147483648 : Int32)).bind fun r4 => some ((r4.1), (r4.2)) else if nI j < 0 then (f_X8_refuse_B s (1 : Int32) (-2147483648 : Int32)).bind fun r7 => some ((r7.1), (r7.2)) else if nI j ≤ (3 : Int32) then (f_X8_filledPlace 2592 (Sb_differences (Bk_subscribers (OuB_books s))) (nI (648 * w)) (nI i)).bind fun r10 => if r10 = (-1 : Int32) then (f_X8_refuse_B s (1 : Int32) (-2147483648 : Int32)).bind fun r18 => some ((r18.1), (r18.2)) else if inb (nI (648 * w) + r10) 2592 then (f_X8_partOfRow r10 (nI j) ((Sb_differences (Bk_subscribers (OuB_books s))) (ix (nI (648 * w) + r10)))).bind fun r14 => (f_X8_accept_B s r14).bind fun r16 => some ((r16.1), (r16.2)) else none else (f_X8_refuse_B s (1 : Int32) (-2147483648 : Int32)).bind fun r20 => some ((r20.1), (r20.2))) = some (v, OuB_w_trouble s 0) := by
            intro v hv
            refine eb a ((if_neg (by decide)).trans ((if_neg q1).trans ((if_pos q2).trans (eb cf ((if_neg nr1).trans ?_)))))
            rw [nI_add, ixN (by omega)]
            exact (if_pos hI).trans (eb hv rfl)
          refine fin_g h (if j = 0 then nI (r / 81) else if j = 1 then tl (r / 9 % 9) else if j = 2 then tl (r % 9) else Sb_differences (Bk_subscribers (OuB_books s)) (648 * w + r)) (preC _ ?_) (eb b ((if_neg (by decide)).trans (eb i1 ((if_neg (by decide)).trans (eb rd (eb e ((if_neg (by decide)).trans (eg ((loop _).trans ?_)))))))))
          · rcases (show j = 0 ∨ j = 1 ∨ j = 2 ∨ j = 3 by omega) with rfl | rfl | rfl | rfl
            · exact pt0
            · exact pt1
            · exact pt2
            · exact pt3
          · rw [d81, d9, m9, m9']
            rcases (show j = 0 ∨ j = 1 ∨ j = 2 ∨ j = 3 by omega) with rfl | rfl | rfl | rfl
            · exact (if_pos rfl).trans rfl
            · exact (if_neg (by decide)).trans ((if_pos rfl).trans (eb (r_told _ (by omega)) rfl))
            · exact (if_neg (by decide)).trans ((if_neg (by decide)).trans ((if_pos rfl).trans (eb (r_told _ (by omega)) rfl)))
            · refine (if_neg (by decide)).trans ((if_neg (by decide)).trans ((if_neg (by decide)).trans ?_))
              rw [show (650 : Int32) + nI r = nI (650 + r) from nI_add 650 r, ef r hr]
              exact eb (r_subAt w _) (eb (gTx sm (by omega)) rfl)
        · have cf := cf2 (fun i hi => by rw [ep] at hi; exact ne2 q hi (by omega))
          exact fin_r h _ 1 tr1 (eb a ((if_neg (by decide)).trans ((if_neg q1).trans ((if_pos q2).trans (eb cf rfl))))) (eb b ((if_neg (by decide)).trans (eb i1 ((if_neg (by decide)).trans (eb rd (eb e rfl))))))
      · have i1 := (inQ p3 (m := 3) (by omega)).2 q
        rcases q' with q' | ⟨w1, w2⟩
        · exact fin_r h _ 1 tr1 (eb a ((if_neg (by decide)).trans ((if_pos q').trans rfl))) (eb b ((if_neg (by decide)).trans (eb i1 rfl)))
        · exact fin_r h _ 1 tr1 (eb a ((if_neg (by decide)).trans ((if_neg w1).trans ((if_neg w2).trans rfl)))) (eb b ((if_neg (by decide)).trans (eb i1 rfl)))
    · exact fin_r h _ 1 tr1 (eb a rfl) (eb b rfl))
