/-! sizes; a desk or a trial made anew -/
theorem st_size (n : Nat) (p1 : Int32) : StpR n (fun cs => fc_size cs p1) (fun sm => f_X9_size sm p1) := by
  intro hn cs sm hR
  have nB5 : ∀ {p : Int32}, (p < 0 ∨ nI (4 + 1) ≤ p) → ∀ j, j < 5 → ¬ p = nI j := fun q j hj => ne2 q (by omega) (by omega)
  have begB : ∀ s kc vc, RB n kc vc s sm → ∃ c, f_X5_countBegun (Bk_subscribers (OuB_books s)) = some c ∧ f_X9_begun (mT sm) = some c := by
    intro s kc vc h
    unfold f_X5_countBegun f_X9_begun
    rw [glE, glE]
    refine lpp (L := fun n i c => f_X5_countBegun_L4_5 (Bk_subscribers (OuB_books s)) (fun x => some x) n c i) (M := fun n i c => f_X9_begun_L4_5 (mT sm) (fun x => some x) n c i) 4 (fun _ c d => c = d) (fun o q => ∃ c, o = some c ∧ q = some c) ?_ ?_ 10000 10000 0 (nI 0) (nI 0) (by omega) (by omega) (by omega) rfl
    · rintro n n2 c d rfl
      refine ⟨c, ?_, ?_⟩
      · show f_X5_countBegun_L4_5 _ _ (n + 1) c (nI 4) = _
        rw [f_X5_countBegun_L4_5]
        exact if_pos (by decide)
      · show f_X9_begun_L4_5 (mT sm) _ (n2 + 1) c (nI 4) = _
        rw [f_X9_begun_L4_5]
        exact if_pos (by decide)
    · rintro n n2 w c d hw rfl
      have n1 : nI w + (1 : Int32) = nI (w + 1) := nI_1 w
      rcases sub2 hn h (nI w) with ⟨_, _, _, a, b, _⟩ | ⟨a, b⟩
      · have a' : f_X5_hasBegun (Bk_subscribers (OuB_books s)) (nI w) = some 1 := by
          unfold f_X8_isSubscribed_B at a
          obtain ⟨v, a1, a2⟩ := gbd a
          by_cases z : v = 0
          · rw [if_pos z] at a2; cases a2
          · rw [a1]
            unfold f_X5_hasBegun at a1
            rw [if_neg (nI_pos (by omega)), if_neg (show ¬ (4 : Int32) ≤ nI w from nI_ge (b := 4) hw (by omega)), if_pos (inbN hw (by omega))] at a1
            by_cases y : Sb_seen (Bk_subscribers (OuB_books s)) (ix (nI w)) = (-1 : Int32)
            · rw [if_pos y] at a1
              exact absurd (Option.some.inj a1).symm z
            · rw [if_neg y] at a1
              exact a1.symm
        refine ⟨c + 1, c + 1, rfl, ?_, ?_⟩
        · show f_X5_countBegun_L4_5 _ _ (n + 1) c (nI w) = _
          rw [f_X5_countBegun_L4_5, n1]
          exact (if_neg (nI_ge hw (by omega))).trans (eb a' (if_neg (by decide)))
        · show f_X9_begun_L4_5 (mT sm) _ (n2 + 1) c (nI w) = _
          rw [f_X9_begun_L4_5, n1]
          exact (if_neg (nI_ge hw (by omega))).trans (eb b (if_neg (by decide)))
      · have a' : f_X5_hasBegun (Bk_subscribers (OuB_books s)) (nI w) = some 0 := by
          unfold f_X8_isSubscribed_B at a
          obtain ⟨v, a1, a2⟩ := gbd a
          by_cases z : v = 0
          · rw [a1, z]
          · rw [if_neg z] at a2; cases a2
        refine ⟨c, c, rfl, ?_, ?_⟩
        · show f_X5_countBegun_L4_5 _ _ (n + 1) c (nI w) = _
          rw [f_X5_countBegun_L4_5, n1]
          exact (if_neg (nI_ge hw (by omega))).trans (eb a' (if_pos rfl))
        · show f_X9_begun_L4_5 (mT sm) _ (n2 + 1) c (nI w) = _
          rw [f_X9_begun_L4_5, n1, show c + (0 : Int32) = c from z1 _]
          exact (if_neg (nI_ge hw (by omega))).trans (eb b (if_pos rfl))
  have sizeB : ∀ s kc vc, RB n kc vc s sm → (∃ k : Int32, (k = nI 0 ∨ k = nI 1) ∧ OuB_isKept s = k ∧ Mo_hasImage sm = k) → ∃ r, f_X8_size_B s p1 = some r ∧ f_X9_size sm p1 = some (r, mT sm) := by
    intro s kc vc h hk
    have nT := h.nT
    obtain ⟨c, b1, b2⟩ := begB s kc vc h
    have hh := h
    obtain ⟨⟨⟨t, _, t2, t3⟩, _⟩, _, _, T, hT, ⟨g, hBd⟩, _, _, _, _, _, ⟨st, _, s2, s3, _⟩, _⟩ := hh
    obtain ⟨c1, r1⟩ := logged2 (kc := kc) (vc := vc) hn hT hBd
    have g13 := gTx sm (i := 13) (by omega)
    unfold f_X8_size_B f_X9_size
    rcases rng p1 4 (by omega) with ⟨j, hj, rfl, q1, q2⟩ | ⟨q, q'⟩
    · rcases (show j = 0 ∨ j = 1 ∨ j = 2 ∨ j = 3 ∨ j = 4 by omega) with rfl | rfl | rfl | rfl | rfl
      · exact ⟨nI t, (if_pos rfl).trans (congrArg some t2), (if_pos rfl).trans (by rw [t3]; rfl)⟩
      · exact ⟨_, (if_neg (by decide)).trans ((if_pos rfl).trans (eb c1 rfl)), (if_neg (by decide)).trans ((if_pos rfl).trans ((if_neg nT).trans (eb r1 rfl)))⟩
      · exact ⟨_, (if_neg (by decide)).trans ((if_neg (by decide)).trans ((if_pos rfl).trans (congrArg some (s2.trans s3.symm)))), (if_neg (by decide)).trans ((if_neg (by decide)).trans ((if_pos rfl).trans ((if_neg nT).trans (eb g13 rfl))))⟩
      · obtain ⟨k, hk1, hk2, hk3⟩ := hk
        rw [hk2, hk3]
        rcases hk1 with rfl | rfl
        · exact ⟨0, (if_neg (by decide)).trans ((if_neg (by decide)).trans ((if_neg (by decide)).trans ((if_pos rfl).trans (if_pos rfl)))), (if_neg (by decide)).trans ((if_neg (by decide)).trans ((if_neg (by decide)).trans ((if_pos rfl).trans (if_pos rfl))))⟩
        · exact ⟨1, (if_neg (by decide)).trans ((if_neg (by decide)).trans ((if_neg (by decide)).trans ((if_pos rfl).trans (if_neg (by decide))))), (if_neg (by decide)).trans ((if_neg (by decide)).trans ((if_neg (by decide)).trans ((if_pos rfl).trans (if_neg (by decide)))))⟩
      · exact ⟨c, (if_neg (by decide)).trans ((if_neg (by decide)).trans ((if_neg (by decide)).trans ((if_neg (by decide)).trans ((if_pos rfl).trans (eb b1 rfl))))), (if_neg (by decide)).trans ((if_neg (by decide)).trans ((if_neg (by decide)).trans ((if_neg (by decide)).trans ((if_pos rfl).trans (eb b2 rfl)))))⟩
    · have n0 := nB5 q 0 (by omega)
      have n1 := nB5 q 1 (by omega)
      have n2 := nB5 q 2 (by omega)
      have n3 := nB5 q 3 (by omega)
      have n4 := nB5 q 4 (by omega)
      exact ⟨-1, (if_neg n0).trans ((if_neg n1).trans ((if_neg n2).trans ((if_neg n3).trans (if_neg n4)))), (if_neg n0).trans ((if_neg n1).trans ((if_neg n2).trans ((if_neg n3).trans (if_neg n4))))⟩
  rcases cs with s | s | ⟨s, h⟩
  · have hN : RN s sm := hR
    have i0 := hN.2.2.2.1
    have k0 := hN.2.2.1
    have m0 := hN.2.2.2.2
    obtain ⟨⟨⟨t, _, t2, t3⟩, _⟩, _⟩ := id hN
    have beg : f_X9_begun (mT sm) = some 0 := by
      unfold f_X9_begun
      rw [glE]
      refine lp (L := fun n i c => f_X9_begun_L4_5 (mT sm) (fun x => some x) n c i) 4 (fun _ c => c = nI 0) (fun o => o = some 0) ?_ ?_ 10000 0 (nI 0) (by omega) (by omega) rfl
      · rintro n c rfl
        show f_X9_begun_L4_5 (mT sm) _ (n + 1) _ (nI 4) = _
        rw [f_X9_begun_L4_5]
        exact if_pos (by decide)
      · rintro n w c hw rfl
        refine Or.inr ⟨nI 0, rfl, ?_⟩
        have b : f_X9_hasBegun (mT sm) (nI w) = some 0 := if_pos ((isThere_mT sm).trans i0)
        show f_X9_begun_L4_5 (mT sm) _ (n + 1) (nI 0) (nI w) = _
        rw [f_X9_begun_L4_5, show nI w + (1 : Int32) = nI (w + 1) from nI_1 w, show nI 0 + (0 : Int32) = nI 0 from rfl]
        exact (if_neg (nI_ge hw (by omega))).trans (eb b (if_pos rfl))
    have main : ∃ r, f_X8_size_N s p1 = some r ∧ f_X9_size sm p1 = some (r, mT sm) := by
      unfold f_X8_size_N f_X9_size
      rw [k0, m0]
      rcases rng p1 4 (by omega) with ⟨j, hj, rfl, q1, q2⟩ | ⟨q, q'⟩
      · rcases (show j = 0 ∨ j = 1 ∨ j = 2 ∨ j = 3 ∨ j = 4 by omega) with rfl | rfl | rfl | rfl | rfl
        · exact ⟨nI t, (if_pos rfl).trans (congrArg some t2), (if_pos rfl).trans (by rw [t3]; rfl)⟩
        · exact ⟨0, (if_neg (by decide)).trans (if_pos rfl), (if_neg (by decide)).trans ((if_pos rfl).trans (if_pos i0))⟩
        · exact ⟨0, (if_neg (by decide)).trans ((if_neg (by decide)).trans (if_pos rfl)), (if_neg (by decide)).trans ((if_neg (by decide)).trans ((if_pos rfl).trans (if_pos i0)))⟩
        · exact ⟨0, (if_neg (by decide)).trans ((if_neg (by decide)).trans ((if_neg (by decide)).trans ((if_pos rfl).trans (if_pos rfl)))), (if_neg (by decide)).trans ((if_neg (by decide)).trans ((if_neg (by decide)).trans ((if_pos rfl).trans (if_pos rfl))))⟩
        · exact ⟨0, (if_neg (by decide)).trans ((if_neg (by decide)).trans ((if_neg (by decide)).trans ((if_neg (by decide)).trans (if_pos rfl)))), (if_neg (by decide)).trans ((if_neg (by decide)).trans ((if_neg (by decide)).trans ((if_neg (by decide)).trans ((if_pos rfl).trans (eb beg rfl)))))⟩
      · have n0 := nB5 q 0 (by omega)
        have n1 := nB5 q 1 (by omega)
        have n2 := nB5 q 2 (by omega)
        have n3 := nB5 q 3 (by omega)
        have n4 := nB5 q 4 (by omega)
        exact ⟨-1, (if_neg n0).trans ((if_neg n1).trans ((if_neg n2).trans ((if_neg n3).trans (if_neg n4)))), (if_neg n0).trans ((if_neg n1).trans ((if_neg n2).trans ((if_neg n3).trans (if_neg n4))))⟩
    obtain ⟨r, a1, a2⟩ := main
    refine ⟨r, csN s, mT sm, ?_, a2, hN.th⟩
    show (f_X8_size_N s p1).map _ = _
    rw [a1]
    rfl
  · obtain ⟨k1, k2, kc, vc, k3⟩ := hR
    obtain ⟨r, a1, a2⟩ := sizeB s kc vc k3 ⟨nI 0, Or.inl rfl, k1, k2⟩
    refine ⟨r, csB s, mT sm, ?_, a2, k1, (hasImage_mT sm).trans k2, kc, vc, k3.th.1⟩
    show (f_X8_size_B s p1).map _ = _
    rw [a1]
    rfl
  · obtain ⟨kc, vc, k3, k4⟩ := hR
    obtain ⟨r, a1, a2⟩ := sizeB s kc vc k3 (by
      rcases k4 with ⟨a, b⟩ | ⟨a, b, _⟩
      · exact ⟨nI 0, Or.inl rfl, a, b⟩
      · exact ⟨nI 1, Or.inr rfl, a, b⟩)
    refine ⟨r, csS s h, mT sm, ?_, a2, kc, vc, k3.th.1, k4.ks k3.th.2⟩
    show (f_X8_size_B s p1).map _ = _
    rw [a1]
    rfl
theorem c_fill (N : Nat) (t : Nat → Int32) (v : Int32) (hN : N < 9999) : f_J7_fill_53178 N t v = some (fun j => if j < N then v else t j) := by
  unfold f_J7_fill_53178
  rw [glE]
  have main := lpc (L := fun n i f => f_J7_fill_53178_L5_5 N v (fun (s0_2 : (Nat → Int32)) => some (s0_2)) n i f) (K := fun (s0_2 : (Nat → Int32)) => some (s0_2)) N (fun i => fun j => if j < i then v else t j) (fuel := 10000) ?_ ?_ (by omega)
  · have e0 : (fun j => if j < 0 then v else t j) = t := by funext j; rw [if_neg (by omega)]
    simp only [e0] at main
    exact main
  · intro n
    show f_J7_fill_53178_L5_5 N v _ (n + 1) (nI N) _ = _
    rw [f_J7_fill_53178_L5_5]
    exact if_pos (Int32.le_refl _)
  · intro n i hi
    have e : upd (fun j => if j < i then v else t j) i v = (fun j => if j < i + 1 then v else t j) := by
      funext j
      by_cases q : j = i
      · rw [ue q, if_pos (by omega)]
      · rw [un q]
        by_cases g : j < i
        · rw [if_pos g, if_pos (by omega)]
        · rw [if_neg g, if_neg (by omega)]
    show f_J7_fill_53178_L5_5 N v _ (n + 1) (nI i) _ = f_J7_fill_53178_L5_5 N v _ n (nI (i + 1)) _
    rw [f_J7_fill_53178_L5_5, ixN (by omega), show nI i + (1 : Int32) = nI (i + 1) from nI_1 i, e]
    exact (if_neg (nI_ge hi (by omega) : ¬ nI N ≤ nI i)).trans (if_pos (inbN hi (by omega)))
