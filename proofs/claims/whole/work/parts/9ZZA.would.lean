/-! would -/
theorem BkE.rf (s : BkT) : BkE s s := by
  unfold BkE
  repeat' apply And.intro
  all_goals first | rfl | exact fun _ _ => rfl
def tkN (o nt : Nat → Int32) (s k i : Nat) : Nat → Int32 := fun j => if (s * 8 + k) * 8 ≤ j ∧ j < (s * 8 + k) * 8 + i then o j else nt j
theorem c_tk8 (o t : BdT) {s k : Nat} (K : BdT → Option BdT) (hs : s < 2) (hk : k < 8) : f_X0_takeKeyFrom_L10_12 o (nI k) (nI s) K 10000 (0 : Int32) t = K (Bd_w_nets t (tkN (Bd_nets o) (Bd_nets t) s k 8)) := by
  rw [li_0]
  have z : tkN (Bd_nets o) (Bd_nets t) s k 0 = Bd_nets t := funext (fun i => if_neg (by omega))
  have main := lpc (L := fun n i t => f_X0_takeKeyFrom_L10_12 o (nI k) (nI s) K n i t) (K := K) 8 (fun i => Bd_w_nets t (tkN (Bd_nets o) (Bd_nets t) s k i)) (fuel := 10000) ?_ ?_ (by omega)
  · simp only [z] at main
    exact main
  · intro n
    show f_X0_takeKeyFrom_L10_12 o (nI k) (nI s) K (n + 1) (nI 8) _ = _
    rw [f_X0_takeKeyFrom_L10_12]
    exact if_pos (Int32.le_refl _)
  · intro n i hi
    have e : upd (tkN (Bd_nets o) (Bd_nets t) s k i) ((s * 8 + k) * 8 + i) (Bd_nets o ((s * 8 + k) * 8 + i)) = tkN (Bd_nets o) (Bd_nets t) s k (i + 1) := by
      funext j
      by_cases c : j = (s * 8 + k) * 8 + i
      · rw [ue c]
        unfold tkN
        rw [if_pos (by omega), c]
      · rw [un c]
        unfold tkN
        by_cases c2 : (s * 8 + k) * 8 ≤ j ∧ j < (s * 8 + k) * 8 + i
        · rw [if_pos c2, if_pos (by omega)]
        · rw [if_neg c2, if_neg (by omega)]
    have g1 : ¬ (8 : Int32) ≤ nI i := nI_ge (b := 8) hi (by omega)
    have g2 : inb (nI ((s * 8 + k) * 8 + i)) 128 := inbN (by omega) (by omega)
    show f_X0_takeKeyFrom_L10_12 o (nI k) (nI s) K (n + 1) (nI i) (Bd_w_nets t (tkN (Bd_nets o) (Bd_nets t) s k i)) = f_X0_takeKeyFrom_L10_12 o (nI k) (nI s) K n (nI (i + 1)) (Bd_w_nets t (tkN (Bd_nets o) (Bd_nets t) s k (i + 1)))
    rw [f_X0_takeKeyFrom_L10_12, nI_1]
    refine (if_neg g1).trans (eb (c_np s k i) (eb (c_no o hs hk hi) ((if_pos g2).trans ?_)))
    rw [ixN (by omega), ← e]
theorem c_tk1 (o t : BdT) {s k : Nat} (K : BdT → Option BdT) (g : Nat) (hs : s < 2) (hk : k < 8) : f_X0_takeKeyFrom_L2_5 o (nI k) K (g + 1) (nI s) t = f_X0_takeKeyFrom_L2_5 o (nI k) K g (nI (s + 1)) (Bd_w_nets t (tkN (Bd_nets o) (Bd_nets t) s k 8)) := by
  have g1 : ¬ (2 : Int32) ≤ nI s := nI_ge (b := 2) hs (by omega)
  rw [f_X0_takeKeyFrom_L2_5]
  refine (if_neg g1).trans (eg ((c_tk8 o t _ hs hk).trans ?_))
  rw [nI_1]
theorem c_take (t o : BdT) {k : Nat} (hk : k < 8) : ∃ nt, f_X0_takeKeyFrom t o (nI k) = some (Bd_w_nets t nt) ∧ ∀ s v, s < 2 → v < 8 → nt ((s * 8 + k) * 8 + v) = Bd_nets o ((s * 8 + k) * 8 + v) := by
  refine ⟨tkN (Bd_nets o) (tkN (Bd_nets o) (Bd_nets t) 0 k 8) 1 k 8, ?_, fun s v hs hv => ?_⟩
  · unfold f_X0_takeKeyFrom
    rw [glE, li_0]
    have e1 := c_tk1 o t (s := 0) (fun s => some s) 9999 (by omega) hk
    have e2 := c_tk1 o (Bd_w_nets t (tkN (Bd_nets o) (Bd_nets t) 0 k 8)) (s := 1) (fun s => some s) 9998 (by omega) hk
    have e3 : ∀ X, f_X0_takeKeyFrom_L2_5 o (nI k) (fun s => some s) (9997 + 1) (nI (1 + 1)) X = some X := fun X => by
      rw [f_X0_takeKeyFrom_L2_5]
      exact if_pos (Int32.le_refl _)
    exact e1.trans (e2.trans (e3 _))
  · unfold tkN
    rcases (show s = 0 ∨ s = 1 by omega) with e | e
    · subst e
      rw [if_neg (by omega), if_pos (by omega)]
    · subst e
      rw [if_pos (by omega)]
theorem st_would (n : Nat) (p1 p2 p3 p4 p5 : Int32) : StpR n (fun cs => fc_would cs p1 p2 p3 p4 p5) (fun sm => f_X9_would sm p1 p2 p3 p4 p5) := stp1 (fN := fun s => f_X8_would_N s p1 p2 p3 p4 p5) (fB := fun s => f_X8_would_B s p1 p2 p3 p4 p5) (fun _ => rfl) (fun _ => rfl) (fun _ _ => rfl)
  (fun sm s h => fin_n h _ 1 tr1 (eb (nRef h p1 p2 p3 p4 p5).1 rfl) (eb (nRef h p1 p2 p3 p4 p5).2 rfl))
  (fun hn sm s kc vc h => by
    have hh := h
    obtain ⟨_, _, _, T, hT, hR⟩ := hh
    rcases ref2 h p1 p2 p3 p4 p5 with ⟨sd, k, v, t, h1, h2, h3, h4, rfl, rfl, rfl, rfl, h5, h6, a, b⟩ | ⟨w, w1, w2, w3, a, b⟩
    · have hk8 : k < 8 := by have := hR.2.1.1; omega
      have hv8 : v < 8 := by have := hR.2.1.2.1; omega
      have cp : f_X9_copies (Mo_w_thrown sm (0 : Int32)) (1 : Int32) (0 : Int32) = some (mo (mT sm) (cpX (Mo_x sm) 1 0 6571)) := r_copies (mT sm) (Mo_x sm) (a := 1) (b := 0) (by omega) (by omega) (by omega)
      have hR1 : RBk 1 kc vc T (360 * n) (OuB_books s) (Mo_words sm) (cpX (Mo_x sm) 1 0 6571) := hR.mv (BkE.rf _) (fun i hi => by
        unfold cpX
        rw [if_pos (by omega), show 6571 * 1 + i - 6571 * 1 + 6571 * 0 = 6571 * 0 + i by omega])
      have hR1' := hR1
      obtain ⟨⟨g, hBd⟩, _⟩ := hR1'
      obtain ⟨⟨ans, bk'⟩, ⟨a', s1⟩, e1, e2, e3, x', T', e4, e5, e6, e7, e8, e9⟩ := happen2 (mT sm) (show 1 < 3 by omega) h1 h2 h3 h4 h5 h6 (by omega) (by omega) hBd hR1
      have e3 : ans = a' := e3
      subst e3
      have e4 : s1 = mo (mT sm) x' := e4
      subst e4
      have e2 : f_X9_does (mo (mT sm) (cpX (Mo_x sm) 1 0 6571)) (1 : Int32) (nI sd) (nI k) (nI v) p4 (nI t) = some (ans, mo (mT sm) x') := e2
      have e9 : Bk_clock (OuB_books s) - Bk_late (OuB_books s) ≤ nI t → ans = nI (T' - T) := e9
      have hx : ∀ i, (i < 6571 ∨ 13142 ≤ i) → Mo_x (mo (mT sm) x') i = Mo_x sm i := fun i hi => by
        rw [mo_x, e8 i (by omega)]
        unfold cpX
        rw [if_neg (by omega)]
      have m2e : f_X9_would sm (nI sd) (nI k) (nI v) p4 (nI t) = some (ans, mG (mo (mT sm) x')) := eb b ((if_pos (by decide)).trans (eb cp (eb e2 (eb (r_good _ _) rfl))))
      have cl := c_late (OuB_books s) (nI t)
      by_cases q : Bk_clock (OuB_books s) - Bk_late (OuB_books s) ≤ nI t
      · rw [if_pos q] at cl
        obtain ⟨⟨a0, bk1⟩, ⟨_, _⟩, g1, _, _, x2, _, g5, g6, g7, g8⟩ := advance2 (b := 1) (t := t) (mT sm) (by omega) h4 (by omega) hBd hR1
        have g1 : f_X1_advance (OuB_books s) (nI t) = some (a0, bk1) := g1
        have g8 : ADi (OuB_books s) bk1 (if Bk_clock (OuB_books s) < nI t then nI t else Bk_clock (OuB_books s)) 8 := g8
        have g5 : RBd 1 g T (Bk_board bk1) x2 := g5
        obtain ⟨bd0, c1, c2, c3, c4, c5, c6, c7, c8⟩ := c_clear (OuB_trial s) (Bd_how (Bk_board (OuB_books s)))
        have due := c_due (OuB_books s) (if Bk_clock (OuB_books s) < nI t then nI t else Bk_clock (OuB_books s)) hk8
        have hnet := fun s' v' (hs' : s' < 2) (hv' : v' < 8) => g8.2.2.2.2.2.2.2.2.2.2 s' k v' hs' hk8 hv'
        have hw : Bd_how (Bk_board (OuB_books s)) = nI g := hBd.2.1
        have tw : ∀ (tr : BdT), Bd_how tr = nI g → Lg_total (Bd_ledger tr) = nI 0 → (∀ s' v', s' < 2 → v' < 8 → Bd_nets (Bk_board bk1) ((s' * 8 + k) * 8 + v') = Bd_nets tr ((s' * 8 + k) * 8 + v')) → ∃ tr', f_X0_change tr (nI sd) (nI k) (nI v) p4 = some tr' ∧ Lg_total (Bd_ledger tr') = ans := fun tr k1 k2 k3 => by
          obtain ⟨A', B', u1, u2, d, u3, u4, u5⟩ := tw_change (T1 := T) (T2 := 0) (h := g) (sd := sd) (k := k) (v := v) (many := p4) (a := Bd_w_ledger (Bk_board bk1) (Lg_w_inAct (Lg_w_acts (Bd_ledger (Bk_board bk1)) (Lg_acts (Bd_ledger (Bk_board bk1)) + 1)) 0)) (b := tr) h1 hk8 hv8 hBd.2.2.2.1 (by omega) (by omega) k3 ⟨rfl, rfl, g5.2.1, k1, 0, Nat.le_refl _, g5.2.2.2.2.2.1.2.1, k2⟩
          have ib : inb (nI k) 8 := inbN hk8 (by omega)
          have full : f_X1_happen (OuB_books s) (nI sd) (nI k) (nI v) p4 (nI t) = (f_X4_add (Bk_store bk1) (nI sd) (nI k) (nI v) p4).bind fun r12 => some ((Lg_inAct (Bd_ledger A')), (Bk_w_latest (Bk_w_store (Bk_w_board bk1 A') r12) (upd (Bk_latest bk1) (ix (nI k)) (if ((Bk_latest bk1) (ix (nI k))) < nI t then nI t else ((Bk_latest bk1) (ix (nI k))))))) := eb cl ((if_pos rfl).trans (eb g1 (eb (c_open _) (eb u1 ((if_pos ib).trans (if_pos ib))))))
          rw [full] at e1
          obtain ⟨r12, z1, z2⟩ := Option.bind_eq_some_iff.mp e1
          have z3 := Option.some.inj z2
          have z4 : Bk_board bk' = A' := by
            have := congrArg Prod.snd z3
            have this : Bk_w_latest (Bk_w_store (Bk_w_board bk1 A') r12) (upd (Bk_latest bk1) (ix (nI k)) (if ((Bk_latest bk1) (ix (nI k))) < nI t then nI t else ((Bk_latest bk1) (ix (nI k))))) = bk' := this
            rw [← this]
          have e7' := e7
          obtain ⟨⟨h', hBd'⟩, _⟩ := e7'
          have z5 : Lg_total (Bd_ledger (Bk_board bk')) = nI T' := hBd'.2.2.2.2.2.1.2.1
          rw [z4, u4] at z5
          have z6 : T + d = T' := (nI_eq (by omega) (by omega)).mp z5
          refine ⟨B', u2, ?_⟩
          rw [u5, e9 q, show 0 + d = T' - T by omega]
        cases hd : dueB (OuB_books s) k (if Bk_clock (OuB_books s) < nI t then nI t else Bk_clock (OuB_books s)) with
        | false =>
          rw [hd] at due
          obtain ⟨nt, y1, y2⟩ := c_take bd0 (Bk_board (OuB_books s)) hk8
          obtain ⟨tr', y3, y4⟩ := tw (Bd_w_nets bd0 nt) (c5.trans hw) c7 (fun s' v' hs' hv' => by
            rw [hnet s' v' hs' hv', if_neg (fun w => by rw [hd] at w; cases w.2)]
            exact (y2 s' v' hs' hv').symm)
          have m1e : f_X8_would_B s (nI sd) (nI k) (nI v) p4 (nI t) = some (ans, OuB_w_trouble (OuB_w_trial (OuB_w_order s (OuB_order s)) tr') 0) := by
            rw [← y4]
            exact eb a ((if_pos rfl).trans (eb cl ((if_pos rfl).trans (eb c1 (eb due (eg ((if_pos rfl).trans (eb y1 (eb y3 rfl)))))))))
          exact fin_t h (OuB_order s) tr' ((SC.mT sm).mo x') hx ans m1e m2e
        | true =>
          rw [hd] at due
          obtain ⟨tr', y3, y4⟩ := tw bd0 (c5.trans hw) c7 (fun s' v' hs' hv' => by
            rw [hnet s' v' hs' hv', if_pos ⟨hk8, hd⟩]
            exact (c2 _ (by omega)).symm)
          have m1e : f_X8_would_B s (nI sd) (nI k) (nI v) p4 (nI t) = some (ans, OuB_w_trouble (OuB_w_trial (OuB_w_order s (OuB_order s)) tr') 0) := by
            rw [← y4]
            exact eb a ((if_pos rfl).trans (eb cl ((if_pos rfl).trans (eb c1 (eb due (eg ((if_neg b10).trans (eb y3 rfl))))))))
          exact fin_t h (OuB_order s) tr' ((SC.mT sm).mo x') hx ans m1e m2e
      · rw [if_neg q] at cl
        have full : f_X1_happen (OuB_books s) (nI sd) (nI k) (nI v) p4 (nI t) = some ((-2 : Int32), (Bk_w_tooLate (OuB_books s) ((Bk_tooLate (OuB_books s)) + (1 : Int32)))) := eb cl (if_neg (by decide))
        rw [full] at e1
        have z3 := congrArg Prod.fst (Option.some.inj e1)
        have z3 : (-2 : Int32) = ans := z3
        have m1e : f_X8_would_B s (nI sd) (nI k) (nI v) p4 (nI t) = some (ans, OuB_w_trouble (OuB_w_trial (OuB_w_order s (OuB_order s)) (OuB_trial s)) 0) := by
          rw [← z3]
          exact eb a ((if_pos rfl).trans (eb cl ((if_neg (by decide)).trans rfl)))
        exact fin_t h (OuB_order s) (OuB_trial s) ((SC.mT sm).mo x') hx ans m1e m2e
    · exact fin_r h _ w w1 (eb a ((if_neg w2).trans rfl)) (eb b ((if_neg w3).trans rfl)))
