theorem c_start (sb : SbT) (bd : BdT) {w : Nat} (hw : w < 4) : ∃ sb', f_X5_start sb bd (nI w) = some sb' ∧ Sb_seen sb' = upd (Sb_seen sb) w (Lg_total (Bd_ledger bd)) ∧ (∀ j, Sb_holds sb' j = if 648 * w ≤ j ∧ j < 648 * w + 648 then Bd_sums bd (j - 648 * w) else Sb_holds sb j) ∧ (∀ j, Sb_differences sb' j = if 648 * w ≤ j ∧ j < 648 * w + 648 then nI 0 else Sb_differences sb j) := by
  obtain ⟨s1, c1, c2, c3, c4⟩ := c_catch sb bd hw
  have main := lpc (L := fun n i t => f_X5_start_L8_7 (nI w) (fun (s0_4 : SbT) => some (s0_4)) n i t) (K := fun (s0_4 : SbT) => some (s0_4)) 648 (fun i => Sb_w_differences s1 (fun j => if 648 * w ≤ j ∧ j < 648 * w + i then nI 0 else Sb_differences s1 j)) (fuel := 10000) ?_ ?_ (by omega)
  · have e1 : Sb_w_differences s1 (fun j => if 648 * w ≤ j ∧ j < 648 * w + 0 then nI 0 else Sb_differences s1 j) = s1 := by
      have a1 : (fun j => if 648 * w ≤ j ∧ j < 648 * w + 0 then nI 0 else Sb_differences s1 j) = Sb_differences s1 := by funext j; rw [if_neg (by omega)]
      rw [a1]
    simp only [e1] at main
    refine ⟨Sb_w_differences s1 (fun j => if 648 * w ≤ j ∧ j < 648 * w + 648 then nI 0 else Sb_differences s1 j), ?_, c2, c3, fun j => ?_⟩
    · unfold f_X5_start
      exact eb c1 (eg main)
    · show (if 648 * w ≤ j ∧ j < 648 * w + 648 then nI 0 else Sb_differences s1 j) = _
      by_cases q : 648 * w ≤ j ∧ j < 648 * w + 648
      · rw [if_pos q, if_pos q]
      · rw [if_neg q, if_neg q, c4, if_neg q]
  · intro n
    show f_X5_start_L8_7 (nI w) _ (n + 1) (nI 648) _ = _
    rw [f_X5_start_L8_7]
    exact if_pos (by decide)
  · intro n r hr
    have a1 : upd (fun j => if 648 * w ≤ j ∧ j < 648 * w + r then nI 0 else Sb_differences s1 j) (648 * w + r) (0 : Int32) = (fun j => if 648 * w ≤ j ∧ j < 648 * w + (r + 1) then nI 0 else Sb_differences s1 j) := by
      funext j
      by_cases q : j = 648 * w + r
      · rw [ue q, if_pos (by omega)]
        rfl
      · rw [un q]
        by_cases g : 648 * w ≤ j ∧ j < 648 * w + r
        · rw [if_pos g, if_pos (by omega)]
        · rw [if_neg g, if_neg (by omega)]
    show f_X5_start_L8_7 (nI w) (fun (s0_4 : SbT) => some (s0_4)) (n + 1) (nI r) (Sb_w_differences s1 (fun j => if 648 * w ≤ j ∧ j < 648 * w + r then nI 0 else Sb_differences s1 j)) = f_X5_start_L8_7 (nI w) (fun (s0_4 : SbT) => some (s0_4)) n (nI (r + 1)) (Sb_w_differences s1 (fun j => if 648 * w ≤ j ∧ j < 648 * w + (r + 1) then nI 0 else Sb_differences s1 j))
    rw [f_X5_start_L8_7, w648, nI_add, ixN (show 648 * w + r < 2147483648 by omega), show nI r + (1 : Int32) = nI (r + 1) from nI_1 r]
    refine (if_neg (nI_ge hr (by omega))).trans ((if_pos (inbN (by omega) (by omega))).trans ?_)
    show f_X5_start_L8_7 (nI w) (fun (s0_4 : SbT) => some (s0_4)) n (nI (r + 1)) (Sb_w_differences s1 (upd (fun j => if 648 * w ≤ j ∧ j < 648 * w + r then nI 0 else Sb_differences s1 j) (648 * w + r) (0 : Int32))) = _
    rw [a1]
def zS (x : Nat → Int32) (a i : Nat) : Nat → Int32 := fun j => if a ≤ j ∧ j < a + i then nI 0 else x j
theorem zS_step (x : Nat → Int32) (a i : Nat) : upd (zS x a i) (a + i) (0 : Int32) = zS x a (i + 1) := by
  funext j
  unfold zS
  by_cases q : j = a + i
  · rw [ue q, if_pos (by omega)]
    rfl
  · rw [un q]
    by_cases g : a ≤ j ∧ j < a + i
    · rw [if_pos g, if_pos (by omega)]
    · rw [if_neg g, if_neg (by omega)]
theorem zS_0 (x : Nat → Int32) (a : Nat) : zS x a 0 = x := by
  funext j
  unfold zS
  rw [if_neg (by omega)]
theorem r_zer1 (m : MoT) (x : Nat → Int32) {w : Nat} (K : MoT → Option (Int32 × MoT)) (hw : w < 4) : f_X9_begin_L29_30 (nI w) K 10000 0 (mo m x) = K (mo m (zS x (1379 + 1298 * w) 1298)) := by
  have main := lpc (L := fun n i t => f_X9_begin_L29_30 (nI w) K n i t) (K := K) 1298 (fun i => mo m (zS x (1379 + 1298 * w) i)) (fuel := 10000) ?_ ?_ (by omega)
  · rw [li_0]
    simp only [zS_0] at main
    exact main
  · intro n
    show f_X9_begin_L29_30 (nI w) K (n + 1) (nI 1298) _ = _
    rw [f_X9_begin_L29_30]
    exact if_pos (by decide)
  · intro n i hi
    have g := sX m (zS x (1379 + 1298 * w) i) (i := 1379 + 1298 * w + i) (0 : Int32) (by omega)
    rw [zS_step] at g
    show f_X9_begin_L29_30 (nI w) K (n + 1) (nI i) _ = f_X9_begin_L29_30 (nI w) K n (nI (i + 1)) _
    rw [f_X9_begin_L29_30, show nI i + (1 : Int32) = nI (i + 1) from nI_1 i]
    exact (if_neg (nI_ge hi (by omega))).trans (eb (r_subAt w i) (eb g rfl))
theorem r_zer2 (m : MoT) (x : Nat → Int32) {w : Nat} (K : MoT → Option (Int32 × MoT)) (hw : w < 4) : f_X9_begin_L72_21 (nI w) K 10000 0 (mo m x) = K (mo m (zS x (1379 + 1298 * w + 650) 648)) := by
  have main := lpc (L := fun n i t => f_X9_begin_L72_21 (nI w) K n i t) (K := K) 648 (fun i => mo m (zS x (1379 + 1298 * w + 650) i)) (fuel := 10000) ?_ ?_ (by omega)
  · rw [li_0]
    simp only [zS_0] at main
    exact main
  · intro n
    show f_X9_begin_L72_21 (nI w) K (n + 1) (nI 648) _ = _
    rw [f_X9_begin_L72_21]
    exact if_pos (by decide)
  · intro n i hi
    have g := sX m (zS x (1379 + 1298 * w + 650) i) (i := 1379 + 1298 * w + 650 + i) (0 : Int32) (by omega)
    rw [zS_step] at g
    have sa := r_subAt w (650 + i)
    rw [← Nat.add_assoc] at sa
    show f_X9_begin_L72_21 (nI w) K (n + 1) (nI i) _ = f_X9_begin_L72_21 (nI w) K n (nI (i + 1)) _
    rw [f_X9_begin_L72_21, show (650 : Int32) + nI i = nI (650 + i) from nI_add 650 i, show nI i + (1 : Int32) = nI (i + 1) from nI_1 i]
    exact (if_neg (nI_ge hi (by omega))).trans (eb sa (eb g rfl))
theorem st_begin (n : Nat) (p1 : Int32) : StpR n (fun cs => fc_begin cs p1) (fun sm => f_X9_begin sm p1) := stp1 (fN := fun s => f_X8_begin_N s p1) (fB := fun s => f_X8_begin_B s p1) (fun _ => rfl) (fun _ => rfl) (fun _ _ => rfl)
  (fun sm s h => fin_n h _ 1 tr1 rfl ((if_pos h.2.2.2.1).trans rfl))
  (fun hn sm s kc vc h => by
    have nT := h.nT
    have hh := h
    obtain ⟨_, _, _, T, hT, hR⟩ := hh
    unfold f_X8_begin_B f_X9_begin
    rcases rng p1 3 (by omega) with ⟨w, hw, rfl, q1, q2⟩ | ⟨q, q'⟩
    · have q3 : nI w < (4 : Int32) := nI_lt (b := 4) (by omega) (by omega)
      have i1 := (inQ (nI w) (m := 3) (by omega)).1 ⟨w, hw, rfl⟩
      obtain ⟨sb', c1, c2, c3, c4⟩ := c_start (Bk_subscribers (OuB_books s)) (Bk_board (OuB_books s)) (w := w) (by omega)
      have ct := c_count (N := 648) (o := 0) (Bd_sums (Bk_board (OuB_books s))) (by omega) (by omega)
      have tot : Lg_total (Bd_ledger (Bk_board (OuB_books s))) = nI T := by
        obtain ⟨⟨g, hBd⟩, _⟩ := hR
        exact hBd.2.2.2.2.2.1.2.1
      have x11 : Mo_x sm 11 = nI T := by
        obtain ⟨⟨g, hBd⟩, _⟩ := hR
        exact hBd.2.2.2.2.2.1.2.2.1
      generalize hx1 : upd (zS (Mo_x sm) (1379 + 1298 * w) 1298) (1379 + 1298 * w + 0) (1 : Int32) = x1
      have x1e : ∀ i, (i < 1379 + 1298 * w ∨ 1379 + 1298 * w + 1298 ≤ i) → x1 i = Mo_x sm i := fun i hi => by
        rw [← hx1, un (by omega)]
        unfold zS
        rw [if_neg (by omega)]
      have x1z : ∀ i, 0 < i → i < 1298 → x1 (1379 + 1298 * w + i) = nI 0 := fun i h0 hi => by
        rw [← hx1, un (by omega)]
        unfold zS
        rw [if_pos (by omega)]
      have x1o : x1 (1379 + 1298 * w) = nI 1 := by
        rw [← hx1, ue (by omega)]
        rfl
      have g1 := sX (mT sm) (zS (Mo_x sm) (1379 + 1298 * w) 1298) (i := 1379 + 1298 * w + 0) (1 : Int32) (by omega)
      rw [hx1] at g1
      have r1 := r_looks (mT sm) x1 (Bd_sums (Bk_board (OuB_books s))) (w := w) (by omega) (fun y hy => h.sat hn (mT sm) y (fun i hi => (hy i hi).trans (x1e i (by omega))))
      have epre : pre (fun r => Bd_sums (Bk_board (OuB_books s)) r - x1 (1379 + 1298 * w + 2 + r)) 648 = pre (fun r => Bd_sums (Bk_board (OuB_books s)) (0 + r)) 648 := pre_congr 648 (fun r hr => by
        rw [show 1379 + 1298 * w + 2 + r = 1379 + 1298 * w + (2 + r) by omega, x1z (2 + r) (by omega) (by omega), z4, Nat.zero_add])
      rw [epre] at r1
      have z1' : f_X9_begin_L29_30 (nI w) _ 10000 0 (mT sm) = _ := r_zer1 (mT sm) (Mo_x sm) (w := w) (fun (s0_8 : MoT) => (f_X9_subAt (nI w) (0 : Int32)).bind fun r9 => (f_X9_set s0_8 (0 : Int32) r9 (1 : Int32)).bind fun r11 => (f_X9_looks r11 (nI w)).bind fun r13 => glt (fun (s0_16 : MoT) => (f_X9_good s0_16 (r13.1)).bind fun r17 => some ((r17.1), (r17.2))) fun K15 => f_X9_begin_L72_21 (nI w) K15 10000 (0 : Int32) (r13.2)) (by omega)
      refine ⟨_, _, _, (if_neg q1).trans ((if_pos q3).trans (eb c1 (eb ct rfl))), (if_neg nT).trans (eb i1 ((if_neg (by decide)).trans (eg (z1'.trans (eb (r_subAt w 0) (eb g1 (eb r1 (eg ((r_zer2 (mT sm) _ _ (by omega)).trans rfl))))))))), h.sub hT hR (fun i hi => ?_) (fun w' hw' => ?_)⟩
      · unfold zS
        rw [if_neg (by omega), un (by omega)]
        unfold lkX
        rw [if_neg (by omega), if_neg (by omega)]
        exact x1e i (by omega)
      · by_cases e : w' = w
        · subst e
          refine Or.inr ⟨T, Nat.le_refl _, by rw [c2, us, tot], ?_, ?_, fun r hr => ⟨?_, ?_⟩⟩
          · unfold zS
            rw [if_neg (by omega), un (by omega)]
            unfold lkX
            rw [if_neg (by omega), if_neg (by omega)]
            exact (congrArg x1 (by omega)).trans x1o
          · unfold zS
            rw [if_neg (by omega), ue (by omega), x1e 11 (by omega)]
            exact x11
          · rw [c3, if_pos (by omega)]
            unfold zS
            rw [if_neg (by omega), un (by omega)]
            unfold lkX
            rw [if_pos (by omega)]
            congr 1
            omega
          · rw [c4, if_pos (by omega)]
            unfold zS
            rw [if_pos (by omega)]
        · have lk : ∀ i, 6571 * 0 + (1379 + 1298 * w') ≤ i → i < 6571 * 0 + (1379 + 1298 * w' + 1298) → zS (upd (lkX x1 (Bd_sums (Bk_board (OuB_books s))) w 648) (1379 + 1298 * w + 1) (x1 11)) (1379 + 1298 * w + 650) 648 i = Mo_x sm i := fun i i1 i2 => by
            unfold zS
            rw [if_neg (by omega), un (by omega)]
            unfold lkX
            rw [if_neg (by omega), if_neg (by omega)]
            exact x1e i (by omega)
          rw [c2, un e]
          rcases hR.2.2.2.2.2.2.2.1 w' hw' with ⟨z1, z2⟩ | ⟨s2, z1, z2, z3, z4, z5⟩
          · exact Or.inl ⟨z1, by rw [lk _ (by omega) (by omega)]; exact z2⟩
          · refine Or.inr ⟨s2, z1, z2, by rw [lk _ (by omega) (by omega)]; exact z3, by rw [lk _ (by omega) (by omega)]; exact z4, fun r hr => ⟨?_, ?_⟩⟩
            · rw [c3, if_neg (by omega), lk _ (by omega) (by omega)]
              exact (z5 r hr).1
            · rw [c4, if_neg (by omega), lk _ (by omega) (by omega)]
              exact (z5 r hr).2
    · have i1 := (inQ p1 (m := 3) (by omega)).2 q
      rcases q with q | q
      · exact fin_r h _ 1 tr1 ((if_pos q).trans rfl) ((if_neg nT).trans (eb i1 rfl))
      · have q4 : ¬ p1 < (4 : Int32) := fun g => by rw [ltI] at g; rw [leI] at q; have : (nI (3 + 1)).toInt = 4 := rfl; have : (4 : Int32).toInt = 4 := rfl; omega
        exact fin_r h _ 1 tr1 ((if_neg (ge2 q (by omega)).1).trans ((if_neg q4).trans rfl)) ((if_neg nT).trans (eb i1 rfl)))
