/-! rows, a row, lag, size -/
theorem RB.fnd {n kc vc : Nat} {s : OuBT} {sm : MoT} (hn : n < 512) (h : RB n kc vc s sm) (p2 : Int32) : ∃ s', f_X9_finds (mT sm) 0 p2 = some (nI (pre (Bd_sums (Bk_board (OuB_books s))) 648), s') ∧ FI sm (Mo_x sm) (Bd_sums (Bk_board (OuB_books s))) p2 648 s' ∧
    (∀ t, Mo_x t = Mo_x sm → ∀ k l r, k < 8 → l < 9 → r < 9 → (l < 8 ∨ r < 8) → f_X9_sentOf t 0 (nI k) (nI l) (nI r) = some (Bd_sums (Bk_board (OuB_books s)) (81 * k + 9 * l + r))) ∧ (∀ k, k < 8 → Bd_sums (Bk_board (OuB_books s)) (81 * k + 80) = nI 0) := by
  obtain ⟨_, _, _, T, hT, ⟨g, hBd⟩, _, _, _, _, hKn, _, _, hNb⟩ := h
  have hnB : nB (xn (Mo_x sm) 0) := fun i hi => by rw [← hBd.1 i hi]; exact hNb.nB (by omega) i hi
  have hS : ∀ t, Mo_x t = Mo_x sm → ∀ k l r, k < 8 → l < 9 → r < 9 → (l < 8 ∨ r < 8) → f_X9_sentOf t 0 (nI k) (nI l) (nI r) = some (Bd_sums (Bk_board (OuB_books s)) (81 * k + 9 * l + r)) := by
    intro t ht k l r h1 h2 h3 h4
    have e := r_sent t (Mo_x sm) (b := 0) (by omega) hBd.2.2.2.1 hBd.2.2.1 h1 h2 h3 h4 hnB
    rw [← ht] at e
    rw [hBd.2.2.2.2.2.2 k l r h1 h2 h3, J_congr h1 hBd.1, ← ht]
    exact e
  have h88 : ∀ k, k < 8 → Bd_sums (Bk_board (OuB_books s)) (81 * k + 80) = nI 0 := by
    intro k hk
    have e5 := hBd.2.2.2.2.2.2 k 8 8 hk (by omega) (by omega)
    have ec : Mo_x sm (6571 * 0 + (175 + (81 * k + 9 * 8 + 8))) = nI 0 := Classical.byContradiction (fun hne => by
      have := (hKn.2 k 8 8 hk (by omega) (by omega) hne).2.2.2
      omega)
    rw [ec] at e5
    exact e5
  obtain ⟨s', w1, w2⟩ := finds2 (sm := mT sm) (b := 0) p2 (by omega) (x_mT sm) (fun t ht => hS t ht) h88
  refine ⟨s', w1, ⟨?_, w2.2.1, w2.2.2.1, w2.2.2.2⟩, hS, h88⟩
  have a := w2.1
  have b := SC.mT sm
  exact ⟨a.1.trans b.1, a.2.1.trans b.2.1, a.2.2.1.trans b.2.2.1, a.2.2.2.1.trans b.2.2.2.1, a.2.2.2.2.1.trans b.2.2.2.2.1, a.2.2.2.2.2.trans b.2.2.2.2.2⟩
theorem fin_gs {n kc vc : Nat} {s : OuBT} {sm s' : MoT} {fB : Option (Int32 × OuBT)} {fm : Option (Int32 × MoT)} (h : RB n kc vc s sm) (hc : SC sm s') (hx : ∀ i, (i < 6571 ∨ 13142 ≤ i) → Mo_x s' i = Mo_x sm i) (v : Int32) (e1 : fB = some (v, OuB_w_trouble s 0)) (e2 : fm = some (v, mG s')) : ∃ r t' sm', fB = some (r, t') ∧ fm = some (r, sm') ∧ RB (n + 1) kc vc t' sm' ∧ KS s sm t' sm' :=
  ⟨v, _, _, e1, e2, h.rd hc.mG (fun i hi => (congrFun (x_mG s') i).trans (hx i (Or.inl hi))) (trouble_mG _) (wrongAt_mG _) tr0, rfl, hc.mG.2.2.2.2.1, hc.mG.1, fun i h1 _ => (congrFun (x_mG s') i).trans (hx i (Or.inr h1))⟩
theorem scR {sm s' : MoT} (h : SC sm s') (w : Int32) : SC sm (mR s' w) := ⟨(words_mR _ _).trans h.1, (tape_mR _ _).trans h.2.1, (taped_mR _ _).trans h.2.2.1, (isThere_mR _ _).trans h.2.2.2.1, (hasImage_mR _ _).trans h.2.2.2.2.1, (fault_mR _ _).trans h.2.2.2.2.2⟩
theorem fin_rs {n kc vc : Nat} {s : OuBT} {sm s' : MoT} {fB : Option (Int32 × OuBT)} {fm : Option (Int32 × MoT)} (h : RB n kc vc s sm) (hc : SC sm s') (hx : ∀ i, (i < 6571 ∨ 13142 ≤ i) → Mo_x s' i = Mo_x sm i) (v w : Int32) (hw : w ≠ nI 4) (e1 : fB = some (v, OuB_w_trouble s w)) (e2 : fm = some (v, mR s' w)) : ∃ r t' sm', fB = some (r, t') ∧ fm = some (r, sm') ∧ RB (n + 1) kc vc t' sm' ∧ KS s sm t' sm' :=
  ⟨v, _, _, e1, e2, h.rd (scR hc w) (fun i hi => (congrFun (x_mR s' w) i).trans (hx i (Or.inl hi))) (trouble_mR _ _) (wrongAt_mR _ _) hw, rfl, (scR hc w).2.2.2.2.1, (scR hc w).1, fun i h1 _ => (congrFun (x_mR s' w) i).trans (hx i (Or.inr h1))⟩
theorem st_rows (n : Nat) : StpR n (fun cs => fc_rows cs) (fun sm => f_X9_rows sm) := stp1 (fN := fun s => f_X8_rows_N s) (fB := fun s => f_X8_rows_B s) (fun _ => rfl) (fun _ => rfl) (fun _ _ => rfl)
  (fun sm s h => fin_n h _ 1 tr1 rfl ((if_pos h.2.2.2.1).trans rfl))
  (fun hn sm s kc vc h => by
    have nT := h.nT
    obtain ⟨s', w1, w2, _⟩ := h.fnd hn (-1)
    have ct := c_count (N := 648) (o := 0) (Bd_sums (Bk_board (OuB_books s))) (by omega) (by omega)
    rw [pre_congr 648 (g := Bd_sums (Bk_board (OuB_books s))) (fun r hr => by rw [Nat.zero_add])] at ct
    unfold f_X8_rows_B f_X9_rows
    exact fin_gs h w2.1 (fun i _ => congrFun w2.2.1 i) _ (eb ct rfl) ((if_neg nT).trans (eb w1 rfl)))
/-- a row found on both sides, or none -/
theorem row_f {n kc vc : Nat} {s : OuBT} {sm : MoT} (hn : n < 512) (h : RB n kc vc s sm) (p1 : Int32) :
    (∃ p s', p < 648 ∧ Bd_sums (Bk_board (OuB_books s)) p ≠ nI 0 ∧ f_X8_filledPlace 648 (Bd_sums (Bk_board (OuB_books s))) 0 p1 = some (nI p) ∧ f_X9_isFound (mT sm) p1 = some (1, s') ∧ SC sm s' ∧ Mo_x s' = Mo_x sm ∧ Mo_foundKey s' = nI (p / 81) ∧ Mo_foundLeft s' = nI (p / 9 % 9) ∧ Mo_foundRight s' = nI (p % 9) ∧ (p / 9 % 9 < 8 ∨ p % 9 < 8) ∧
      (∀ t, Mo_x t = Mo_x sm → f_X9_sentOf t 0 (nI (p / 81)) (nI (p / 9 % 9)) (nI (p % 9)) = some (Bd_sums (Bk_board (OuB_books s)) p))) ∨
    (f_X8_filledPlace 648 (Bd_sums (Bk_board (OuB_books s))) 0 p1 = some (-1) ∧ ∃ s', f_X9_isFound (mT sm) p1 = some (0, s') ∧ SC sm s' ∧ Mo_x s' = Mo_x sm) := by
  have nT : ¬ Mo_isThere (mT sm) = 0 := by rw [isThere_mT]; exact h.nT
  obtain ⟨s', w1, w2, hS, h88⟩ := h.fnd hn p1
  obtain ⟨f1, f2⟩ := c_filled (N := 648) (o := 0) (Bd_sums (Bk_board (OuB_books s))) p1 (by omega) (by omega)
  have ep : ∀ m, pre (fun r => Bd_sums (Bk_board (OuB_books s)) (0 + r)) m = pre (Bd_sums (Bk_board (OuB_books s))) m := fun m => pre_congr m (fun r _ => by rw [Nat.zero_add])
  have pl := pre_le (Bd_sums (Bk_board (OuB_books s))) 648
  unfold f_X9_isFound
  rcases pk_ix p1 (n := pre (Bd_sums (Bk_board (OuB_books s))) 648) (by omega) with q | q | ⟨i, hi, rfl⟩
  · refine Or.inr ⟨f2 (fun j hj => by rw [ep] at hj; exact ne2 (a := 648) (Or.inl q) (by omega) (by omega)), mT sm, (if_neg nT).trans (if_pos q), SC.mT sm, x_mT sm⟩
  · refine Or.inr ⟨f2 (fun j hj => by rw [ep] at hj; exact ne2 (Or.inr q) hj (by omega)), ?_⟩
    by_cases q0 : p1 < 0
    · exact ⟨mT sm, (if_neg nT).trans (if_pos q0), SC.mT sm, x_mT sm⟩
    · exact ⟨s', (if_neg nT).trans ((if_neg q0).trans (eb w1 (if_pos q))), w2.1, w2.2.1⟩
  · obtain ⟨p, hp, hne, hpr⟩ := pre_at (Bd_sums (Bk_board (OuB_books s))) 648 hi
    have hf := w2.2.2.2 i p rfl hp hne hpr
    have hlr : p / 9 % 9 < 8 ∨ p % 9 < 8 := Classical.byContradiction (fun hc => by
      have e : p = 81 * (p / 81) + 80 := by omega
      rw [e] at hne
      exact hne (h88 (p / 81) (by omega)))
    refine Or.inl ⟨p, s', hp, hne, f1 i p rfl hp (by rw [Nat.zero_add]; exact hne) (by rw [ep]; exact hpr), (if_neg nT).trans ((if_neg (nI_pos (by omega))).trans (eb w1 (if_neg (nI_ge hi (by omega))))), w2.1, w2.2.1, hf.1, hf.2.1, hf.2.2, hlr, fun t ht => ?_⟩
    have e := hS t ht (p / 81) (p / 9 % 9) (p % 9) (by omega) (by omega) (by omega) hlr
    rw [show 81 * (p / 81) + 9 * (p / 9 % 9) + p % 9 = p by omega] at e
    exact e
theorem st_row (n : Nat) (p1 p2 : Int32) : StpR n (fun cs => fc_row cs p1 p2) (fun sm => f_X9_row sm p1 p2) := stp1 (fN := fun s => f_X8_row_N s p1 p2) (fB := fun s => f_X8_row_B s p1 p2) (fun _ => rfl) (fun _ => rfl) (fun _ _ => rfl)
  (fun sm s h => by
    have nf : f_X9_isFound (mT sm) p1 = some (0, mT sm) := if_pos ((isThere_mT sm).trans h.2.2.2.1)
    unfold f_X9_row
    rcases rng p2 3 (by omega) with ⟨j, hj, rfl, q1, q2⟩ | ⟨q, q'⟩
    · exact fin_n h _ 1 tr1 rfl (eb ((inQ (nI j) (m := 3) (by omega)).1 ⟨j, hj, rfl⟩) ((if_neg (by decide)).trans (eb nf rfl)))
    · exact fin_n h _ 1 tr1 rfl (eb ((inQ p2 (m := 3) (by omega)).2 q) rfl))
  (fun hn sm s kc vc h => by
    unfold f_X8_row_B f_X9_row
    rcases rng p2 3 (by omega) with ⟨j, hj, rfl, q1, q2⟩ | ⟨q, q'⟩
    · have i1 := (inQ (nI j) (m := 3) (by omega)).1 ⟨j, hj, rfl⟩
      rcases row_f hn h p1 with ⟨p, s', hp, hne, c1, d1, hc, hx, g1, g2, g3, hlr, hs⟩ | ⟨c1, s', d1, hc, hx⟩
      · have nr1 : ¬ nI p = (-1 : Int32) := fun e => (m1E (n := p) (by omega)).mp e
        have hI : inb (nI p) 648 := inbN hp (by omega)
        obtain ⟨pt0, pt1, pt2, pt3⟩ := part2 (k := p / 81) (l := p / 9 % 9) (r := p % 9) (by omega) (by omega) (by omega) (Bd_sums (Bk_board (OuB_books s)) p)
        rw [show 81 * (p / 81) + 9 * (p / 9 % 9) + p % 9 = p by omega] at pt0 pt1 pt2 pt3
        refine fin_gs h hc (fun i _ => congrFun hx i) (if j = 0 then nI (p / 81) else if j = 1 then tl (p / 9 % 9) else if j = 2 then tl (p % 9) else Bd_sums (Bk_board (OuB_books s)) p) ((if_neg q1).trans ((if_pos q2).trans (eb c1 ((if_neg nr1).trans ?_)))) (eb i1 ((if_neg (by decide)).trans (eb d1 ((if_neg (show ¬ (1 : Int32) = 0 by decide)).trans ?_))))
        · rw [ixN (by omega)]
          refine (if_pos hI).trans ?_
          rcases (show j = 0 ∨ j = 1 ∨ j = 2 ∨ j = 3 by omega) with rfl | rfl | rfl | rfl
          · exact eb pt0 rfl
          · exact eb pt1 rfl
          · exact eb pt2 rfl
          · exact eb pt3 rfl
        · show (if nI j = (0 : Int32) then (f_X9_good s' (Mo_foundKey s')).bind fun r10 => some ((r10.1), (r10.2)) else if nI j = (1 : Int32) then (f_X9_told (Mo_foundLeft s')).bind fun r13 => (f_X9_good s' r13).bind fun r15 => some ((r15.1), (r15.2)) else if nI j = (2 : Int32) then (f_X9_told (Mo_foundRight s')).bind fun r18 => (f_X9_good s' r18).bind fun r20 => some ((r20.1), (r20.2)) else (f_X9_sentOf s' (0 : Int32) (Mo_foundKey s') (Mo_foundLeft s') (Mo_foundRight s')).bind fun r22 => (f_X9_good s' r22).bind fun r24 => some ((r24.1), (r24.2))) = _
          rw [g1, g2, g3]
          rcases (show j = 0 ∨ j = 1 ∨ j = 2 ∨ j = 3 by omega) with rfl | rfl | rfl | rfl
          · exact (if_pos rfl).trans rfl
          · exact (if_neg (by decide)).trans ((if_pos rfl).trans (eb (r_told _ (by omega)) rfl))
          · exact (if_neg (by decide)).trans ((if_neg (by decide)).trans ((if_pos rfl).trans (eb (r_told _ (by omega)) rfl)))
          · exact (if_neg (by decide)).trans ((if_neg (by decide)).trans ((if_neg (by decide)).trans (eb (hs s' hx) rfl)))
      · exact fin_rs h hc (fun i _ => congrFun hx i) _ 1 tr1 ((if_neg q1).trans ((if_pos q2).trans (eb c1 rfl))) (eb i1 ((if_neg (by decide)).trans (eb d1 rfl)))
    · exact fin_i (m := 3) h _ q' (eb ((inQ p2 (m := 3) (by omega)).2 q) rfl))
theorem st_lag (n : Nat) (p1 p2 : Int32) : StpR n (fun cs => fc_lag cs p1 p2) (fun sm => f_X9_lag sm p1 p2) := stp1 (fN := fun s => f_X8_lag_N s p1 p2) (fB := fun s => f_X8_lag_B s p1 p2) (fun _ => rfl) (fun _ => rfl) (fun _ _ => rfl)
  (fun sm s h => fin_n h _ 1 tr1 rfl (eb (a := 0) (if_pos h.2.2.2.1) rfl))
  (fun hn sm s kc vc h => by
    unfold f_X8_lag_B f_X9_lag
    rcases sub2 hn h p1 with ⟨w, hw, rfl, a, b, T, sn, hs, hT, hR, e1, e2, e3⟩ | ⟨a, b⟩
    · have hBd := hR.1
      obtain ⟨g, hBd⟩ := hBd
      have tot := hBd.2.2.2.2.2.1.2.1
      have gx := gTx sm (i := 11) (by omega)
      rw [show Mo_x sm 11 = nI T from hBd.2.2.2.2.2.1.2.2.1] at gx
      have gs := gTx sm (i := 1379 + 1298 * w + 1) (by omega)
      rw [e2] at gs
      have sa := r_subAt w 1
      obtain ⟨c1, r1⟩ := logged2 (kc := kc) (vc := vc) hn hT hBd
      have bh : nI T - nI sn = nI (T - sn) := subN hs
      have hI : inb (nI w) 4 := inbN hw (by omega)
      have hix : ix (nI w) = w := ixN (by omega)
      rcases rng p2 3 (by omega) with ⟨j, hj, rfl, q1, q2⟩ | ⟨q, q'⟩
      · have preC : ∀ v, f_X5_told (Bk_subscribers (OuB_books s)) (Bk_board (OuB_books s)) (nI w) (nI j) = some v → ((f_X8_isSubscribed_B s (nI w)).bind fun r1 => if r1 = 0 then (f_X8_refuse_B s (1 : Int32) (-1 : Int32)).bind fun r4 => some ((r4.1), (r4.2)) else if nI j < 0 then (f_X8_refuse_B s (1 : Int32) (-1 : Int32)).bind fun r7 => some ((r7.1), (r7.2)) else if nI j ≤ (3 : Int32) then (f_X5_told (Bk_subscribers (OuB_books s)) (Bk_board (OuB_books s)) (nI w) (nI j)).bind fun r10 => (f_X8_accept_B s r10).bind fun r12 => some ((r12.1), (r12.2)) else (f_X8_refuse_B s (1 : Int32) (-1 : Int32)).bind fun r14 => some ((r14.1), (r14.2))) = some (v, OuB_w_trouble s 0) := fun v hv => eb a ((if_neg (by decide)).trans ((if_neg q1).trans ((if_pos q2).trans (eb hv rfl))))
        have told : ∀ {A : Option Int32} , (if nI j = (0 : Int32) then some (nI T - nI sn) else if nI j = (1 : Int32) then (f_X2_remembered (Bd_ledger (Bk_board (OuB_books s)))).bind fun r4 => if r4 < nI T - nI sn then some ((0 : Int32)) else some ((1 : Int32)) else if nI j = (2 : Int32) then (f_X5_countOtherwise (Bk_subscribers (OuB_books s)) (Bk_board (OuB_books s)) (nI w)).bind fun r8 => some (r8) else (f_X8_countFilled 2592 (Sb_differences (Bk_subscribers (OuB_books s))) (nI w * (648 : Int32))).bind fun r10 => some (r10)) = A → f_X5_told (Bk_subscribers (OuB_books s)) (Bk_board (OuB_books s)) (nI w) (nI j) = A := by
          intro A hA
          unfold f_X5_told
          rw [hix, tot, e1]
          exact (if_pos hI).trans hA
        have other : ∃ v, f_X5_countOtherwise (Bk_subscribers (OuB_books s)) (Bk_board (OuB_books s)) (nI w) = some v ∧ f_X9_otherwise (mT sm) (nI w) = some v := by
          unfold f_X5_countOtherwise f_X9_otherwise
          rw [glE, glE]
          refine lpp (L := fun n i c => f_X5_countOtherwise_L5_5 (Bk_subscribers (OuB_books s)) (Bk_board (OuB_books s)) (nI w) (fun x => some x) n c i) (M := fun n i c => f_X9_otherwise_L4_5 (mT sm) (nI w) (fun x => some x) n c i) 648 (fun _ c d => c = d) (fun o q => ∃ c, o = some c ∧ q = some c) ?_ ?_ 10000 10000 0 (nI 0) (nI 0) (by omega) (by omega) (by omega) rfl
          · rintro n n2 c d rfl
            refine ⟨c, ?_, ?_⟩
            · show f_X5_countOtherwise_L5_5 _ _ (nI w) _ (n + 1) c (nI 648) = _
              rw [f_X5_countOtherwise_L5_5]
              exact if_pos (by decide)
            · show f_X9_otherwise_L4_5 (mT sm) (nI w) _ (n2 + 1) c (nI 648) = _
              rw [f_X9_otherwise_L4_5]
              exact if_pos (by decide)
          · rintro n n2 r c d hr rfl
            have st : f_X9_sentAt (mT sm) (nI r) = some (Bd_sums (Bk_board (OuB_books s)) r) := h.sat hn (mT sm) (Mo_x sm) (fun _ _ => rfl) r hr
            have gr := gTx sm (i := 1379 + 1298 * w + (2 + r)) (by omega)
            have eh := (e3 r hr).1
            by_cases z : Mo_x sm (1379 + 1298 * w + (2 + r)) = Bd_sums (Bk_board (OuB_books s)) r
            · refine ⟨c, c, rfl, ?_, ?_⟩
              · show f_X5_countOtherwise_L5_5 _ _ (nI w) _ (n + 1) c (nI r) = _
                rw [f_X5_countOtherwise_L5_5, w648, nI_add, ixN (show 648 * w + r < 2147483648 by omega), ixN (show r < 2147483648 by omega), show nI r + (1 : Int32) = nI (r + 1) from nI_1 r, eh]
                exact (if_neg (nI_ge hr (by omega))).trans ((if_pos (inbN (by omega) (by omega))).trans ((if_pos (inbN (by omega) (by omega))).trans (if_pos z)))
              · show f_X9_otherwise_L4_5 (mT sm) (nI w) _ (n2 + 1) c (nI r) = _
                rw [f_X9_otherwise_L4_5, show (2 : Int32) + nI r = nI (2 + r) from nI_add 2 r, show nI r + (1 : Int32) = nI (r + 1) from nI_1 r, show c + (0 : Int32) = c from z1 _]
                exact (if_neg (nI_ge hr (by omega))).trans (eb st (eb (r_subAt w _) (eb gr (if_pos z.symm))))
            · refine ⟨c + 1, c + 1, rfl, ?_, ?_⟩
              · show f_X5_countOtherwise_L5_5 _ _ (nI w) _ (n + 1) c (nI r) = _
                rw [f_X5_countOtherwise_L5_5, w648, nI_add, ixN (show 648 * w + r < 2147483648 by omega), ixN (show r < 2147483648 by omega), show nI r + (1 : Int32) = nI (r + 1) from nI_1 r, eh]
                exact (if_neg (nI_ge hr (by omega))).trans ((if_pos (inbN (by omega) (by omega))).trans ((if_pos (inbN (by omega) (by omega))).trans (if_neg z)))
              · show f_X9_otherwise_L4_5 (mT sm) (nI w) _ (n2 + 1) c (nI r) = _
                rw [f_X9_otherwise_L4_5, show (2 : Int32) + nI r = nI (2 + r) from nI_add 2 r, show nI r + (1 : Int32) = nI (r + 1) from nI_1 r]
                exact (if_neg (nI_ge hr (by omega))).trans (eb st (eb (r_subAt w _) (eb gr (if_neg (fun e => z e.symm)))))
        have rd : f_X9_differences (mT sm) (nI w) = _ := r_diffs (mT sm) (Mo_x sm) hw
        have ct := c_count (N := 2592) (o := 648 * w) (Sb_differences (Bk_subscribers (OuB_books s))) (by omega) (by omega)
        rw [pre_congr 648 (g := fun r => Mo_x sm (1379 + 1298 * w + (650 + r))) (fun r hr => (e3 r hr).2)] at ct
        rcases (show j = 0 ∨ j = 1 ∨ j = 2 ∨ j = 3 by omega) with rfl | rfl | rfl | rfl
        · exact fin_g h _ (preC _ (told (if_pos rfl))) (eb b ((if_neg (by decide)).trans (eb gx (eb sa (eb gs ((if_pos rfl).trans rfl))))))
        · by_cases z : 60 < T - sn
          · refine fin_g h 0 (preC _ (told ((if_neg (by decide)).trans ((if_pos rfl).trans (eb c1 ?_))))) (eb b ((if_neg (by decide)).trans (eb gx (eb sa (eb gs ((if_neg (by decide)).trans ((if_pos rfl).trans ?_)))))))
            · rw [bh]
              exact if_pos (nI_lt (by omega) (by omega))
            · rw [bh]
              exact (if_pos (nI_lt (a := 60) z (by omega))).trans rfl
          · refine fin_g h 1 (preC _ (told ((if_neg (by decide)).trans ((if_pos rfl).trans (eb c1 ?_))))) (eb b ((if_neg (by decide)).trans (eb gx (eb sa (eb gs ((if_neg (by decide)).trans ((if_pos rfl).trans ?_)))))))
            · rw [bh]
              exact if_neg (nI_nlt (by omega) (by omega))
            · rw [bh]
              exact (if_neg (nI_nlt (a := 60) (by omega) (by omega))).trans rfl
        · obtain ⟨v, o1, o2⟩ := other
          exact fin_g h v (preC _ (told ((if_neg (by decide)).trans ((if_neg (by decide)).trans ((if_pos rfl).trans (eb o1 rfl)))))) (eb b ((if_neg (by decide)).trans (eb gx (eb sa (eb gs ((if_neg (by decide)).trans ((if_neg (by decide)).trans ((if_pos rfl).trans (eb o2 rfl)))))))))
        · refine fin_g h _ (preC _ (told ((if_neg (by decide)).trans ((if_neg (by decide)).trans ((if_neg (by decide)).trans ?_))))) (eb b ((if_neg (by decide)).trans (eb gx (eb sa (eb gs ((if_neg (by decide)).trans ((if_neg (by decide)).trans ((if_neg (by decide)).trans ((if_pos rfl).trans (eb rd rfl))))))))))
          rw [w648]
          exact eb ct rfl
      · rcases q' with q' | ⟨w1, w2⟩
        · exact fin_r h _ 1 tr1 (eb a ((if_neg (by decide)).trans ((if_pos q').trans rfl))) (eb b ((if_neg (by decide)).trans (eb gx (eb sa (eb gs ((if_neg (ne2 (j := 0) q (by omega) (by omega))).trans ((if_neg (ne2 (j := 1) q (by omega) (by omega))).trans ((if_neg (ne2 (j := 2) q (by omega) (by omega))).trans ((if_neg (ne2 (j := 3) q (by omega) (by omega))).trans rfl)))))))))
        · exact fin_r h _ 1 tr1 (eb a ((if_neg (by decide)).trans ((if_neg w1).trans ((if_neg w2).trans rfl)))) (eb b ((if_neg (by decide)).trans (eb gx (eb sa (eb gs ((if_neg (ne2 (j := 0) q (by omega) (by omega))).trans ((if_neg (ne2 (j := 1) q (by omega) (by omega))).trans ((if_neg (ne2 (j := 2) q (by omega) (by omega))).trans ((if_neg (ne2 (j := 3) q (by omega) (by omega))).trans rfl)))))))))
    · exact fin_r h _ 1 tr1 (eb a rfl) (eb b rfl))
