/-- what time's going on leaves of the books: c is the clock then, keys below i are through -/
def ADi (bk0 s : BkT) (c : Int32) (i : Nat) : Prop :=
  Bk_keys s = Bk_keys bk0 ∧ Bk_values s = Bk_values bk0 ∧ Bk_store s = Bk_store bk0 ∧ Bk_subscribers s = Bk_subscribers bk0 ∧ Bd_ledger (Bk_board s) = Bd_ledger (Bk_board bk0) ∧ Bd_how (Bk_board s) = Bd_how (Bk_board bk0) ∧ Bk_keep s = Bk_keep bk0 ∧ Bk_late s = Bk_late bk0 ∧ Bk_clock s = c ∧
  (∀ k, k < 8 → Bk_latest s k = if k < i ∧ dueB bk0 k c = true then m2 else Bk_latest bk0 k) ∧
  (∀ sd k v, sd < 2 → k < 8 → v < 8 → Bd_nets (Bk_board s) ((sd * 8 + k) * 8 + v) = if k < i ∧ dueB bk0 k c = true then nI 0 else Bd_nets (Bk_board bk0) ((sd * 8 + k) * 8 + v))
theorem adv_loop {b h kc vc T B ck : Nat} {bk0 : BkT} {wd : Nat → Int64} {x0 : Nat → Int32} (sm : MoT) (hb : b < 3) (hB : B ≤ 100000000) (hck : Bk_clock bk0 = nI ck) (hBd : RBd b h T (Bk_board bk0) x0) (hR : RBk b kc vc T B bk0 wd x0) :
    Ok2 (f_X1_advance_L19_5 (fun s => some ((Bk_lapsed s - Bk_lapsed bk0), s)) 10000 0 bk0) (f_X9_lapses (mo sm x0) (nI b))
      (fun r r' => r.1 = r'.1 ∧ ∃ x', r'.2 = mo sm x' ∧ RBd b h T (Bk_board r.2) x' ∧ RBk b kc vc T B r.2 wd x' ∧ FrO b x0 x' ∧ ADi bk0 r.2 (nI ck) 8) := by
  unfold f_X9_lapses
  rw [glE, li_0]
  refine lpp (L := fun n i s => f_X1_advance_L19_5 (fun s => some ((Bk_lapsed s - Bk_lapsed bk0), s)) n i s) (M := fun n i (p : Int32 × MoT) => f_X9_lapses_L4_7 (nI b) (fun (x2_2 : Int32) (s0_3 : MoT) => some (x2_2, s0_3)) n p.1 i p.2) 8
    (fun i s p => ∃ x', p.2 = mo sm x' ∧ RBd b h T (Bk_board s) x' ∧ RBk b kc vc T B s wd x' ∧ FrO b x0 x' ∧ Bk_lapsed s = Bk_lapsed bk0 + p.1 ∧ ADi bk0 s (nI ck) i) (fun o q => Ok2 o q _) ?_ ?_ 10000 10000 0 bk0 (nI 0, mo sm x0) (by omega) (by omega) (by omega) ⟨x0, rfl, hBd, hR, FrO.rf _ _, (z1 _).symm, ?_⟩
  · rintro n n2 s ⟨c, t⟩ ⟨x', e1, e2, e3, e4, e5, e6⟩
    have e1 : t = mo sm x' := e1
    subst e1
    have e5 : Bk_lapsed s = Bk_lapsed bk0 + c := e5
    show Ok2 (f_X1_advance_L19_5 (fun s => some ((Bk_lapsed s - Bk_lapsed bk0), s)) (n + 1) (nI 8) s) (f_X9_lapses_L4_7 (nI b) (fun (x2_2 : Int32) (s0_3 : MoT) => some (x2_2, s0_3)) (n2 + 1) c (nI 8) (mo sm x')) _
    simp (disch := omega) only [li_0, li_1, li_2, li_3, li_4, li_5, li_6, li_7, li_8, li_9, li_10, li_11, li_12, li_13, li_14, li_15, li_16, li_20, li_30, li_31, li_32, li_40, li_42, li_45, li_48, li_57, li_58, li_59, li_60, li_64, li_74, li_75, li_81, li_97, li_122, li_124, li_143, li_151, li_159, li_167, li_175, li_200, li_255, li_648, li_650, li_823, li_900, li_999, li_1123, li_1298, li_1363, li_1379, li_2592, li_6571, li_9999, li_65536, li_65537, ng1, ng2, nI_add, pk_mul, remN, divN, inbI, ixN, leN, ltN, eqN, m1E, m1E', m2E, m12, m21, bsm, glE, b2iT, b2iF, if_pos, if_neg, ite_true, ite_false, not_true, not_false_iff, reduceCtorEq, f_X1_advance_L19_5, f_X9_lapses_L4_7]
    refine Ok2.ret ⟨?_, x', rfl, e2, e3, e4, e6⟩
    show Bk_lapsed s - Bk_lapsed bk0 = c
    rw [e5, Int32.add_comm, Int32.add_sub_cancel]
  · rintro n n2 i s ⟨c, t⟩ hi ⟨x', e1, e2, e3, e4, e5, e6⟩
    have e1 : t = mo sm x' := e1
    subst e1
    have e5 : Bk_lapsed s = Bk_lapsed bk0 + c := e5
    have hclk : Bk_clock s = nI ck := e6.2.2.2.2.2.2.2.2.1
    have hlat : Bk_latest s i = Bk_latest bk0 i := by
      rw [e6.2.2.2.2.2.2.2.2.2.1 i hi, if_neg (by omega)]
    have hdue : dueB s i (nI ck) = dueB bk0 i (nI ck) := by
      unfold dueB
      rw [hlat, e6.2.2.2.2.2.2.1]
    have cc := fun n K => c_adv1 s (n := n) K hi hclk
    have hnB : nB (xn x' b) := fun j hj => by rw [← e2.1 j hj]; exact e3.2.2.2.2.2.2.2.2.nB hB j hj
    have ad0 : dueB bk0 i (nI ck) = false → ADi bk0 s (nI ck) (i + 1) := by
      intro hf
      obtain ⟨a1, a2, a3, a4, a5, a6, a7, a8, a9, a10, a11⟩ := e6
      refine ⟨a1, a2, a3, a4, a5, a6, a7, a8, a9, fun k hk => ?_, fun sd k v g1 g2 g3 => ?_⟩
      · rw [a10 k hk]
        by_cases q : k = i
        · subst q; rw [hf]; simp
        · by_cases q2 : k < i
          · simp [q2, show k < i + 1 by omega]
          · simp [q2, show ¬ k < i + 1 by omega]
      · rw [a11 sd k v g1 g2 g3]
        by_cases q : k = i
        · subst q; rw [hf]; simp
        · by_cases q2 : k < i
          · simp [q2, show k < i + 1 by omega]
          · simp [q2, show ¬ k < i + 1 by omega]
    rcases e3.2.2.2.1 i hi with ⟨q1, q2, q3⟩ | ⟨lt, q1, q2, q3, q4⟩
    · have hf : dueB s i (nI ck) = false := by
        unfold dueB
        rw [q2]
        simp
      have c1 := r_lives sm x' hb hi
      simp only [q1, show (nI 0 = nI 1) = False from eq_false (by decide), decide_false] at c1
      refine ⟨s, (c, mo sm x'), ⟨x', rfl, e2, e3, e4, e5, ad0 (hdue ▸ hf)⟩, ?_, ?_⟩
      · have := cc n (fun s => some ((Bk_lapsed s - Bk_lapsed bk0), s))
        rw [hf, if_neg (by simp)] at this
        exact this
      · show f_X9_lapses_L4_7 (nI b) (fun (x2_2 : Int32) (s0_3 : MoT) => some (x2_2, s0_3)) (n2 + 1) c (nI i) (mo sm x') = f_X9_lapses_L4_7 (nI b) (fun (x2_2 : Int32) (s0_3 : MoT) => some (x2_2, s0_3)) n2 c (nI (i + 1)) (mo sm x')
        simp (disch := omega) only [li_0, li_1, li_2, li_3, li_4, li_5, li_6, li_7, li_8, li_9, li_10, li_11, li_12, li_13, li_14, li_15, li_16, li_20, li_30, li_31, li_32, li_40, li_42, li_45, li_48, li_57, li_58, li_59, li_60, li_64, li_74, li_75, li_81, li_97, li_122, li_124, li_143, li_151, li_159, li_167, li_175, li_200, li_255, li_648, li_650, li_823, li_900, li_999, li_1123, li_1298, li_1363, li_1379, li_2592, li_6571, li_9999, li_65536, li_65537, ng1, ng2, nI_add, pk_mul, remN, divN, inbI, ixN, leN, ltN, eqN, m1E, m1E', m2E, m12, m21, bsm, glE, b2iT, b2iF, if_pos, if_neg, ite_true, ite_false, not_true, not_false_iff, reduceCtorEq, f_X9_lapses_L4_7, c1]
    · obtain ⟨⟨kp, k1, k2, k3⟩, _, ⟨ck2, c1, c2, c3⟩, _⟩ := e3.2.2.2.2.1
      have e8 : nI ck2 = nI ck := c2.symm.trans hclk
      rw [e8] at c3
      have hckb : ck < 2147483648 → ck = ck2 := fun g => by
        have := (nI_eq (a := ck2) (b := ck) (by omega) g).mp e8
        omega
      have c3' : x' (6571 * b + 5) = nI ck2 := by rw [c3, e8]
      have rr := r_adv1 sm x' (n := n2) c (fun (x2_2 : Int32) (s0_3 : MoT) => some (x2_2, s0_3)) hb hi e2.2.2.2.1 e2.2.2.1 hnB q2 q3 k3 c3' q1 k1 c1
      by_cases hd : lt + kp < ck2
      · have hf : dueB s i (nI ck) = true := by
          unfold dueB
          rw [q4, k2, nI_add, ← e8]
          simp (disch := omega) only [leN, m2E]
          simp
          omega
        rw [if_pos hd] at rr
        obtain ⟨l1, l2⟩ := lap_rel hi e2 e3
        refine ⟨lapB s i, (c + nI 1, mo sm (lapX x' b h i)), ⟨lapX x' b h i, rfl, l1, l2, e4.tr (lapX_O hi), ?_, ?_⟩, ?_, rr⟩
        · show Bk_lapsed s + nI 1 = Bk_lapsed bk0 + (c + nI 1)
          rw [e5, Int32.add_assoc]
        · rw [hdue] at hf
          obtain ⟨a1, a2, a3, a4, a5, a6, a7, a8, a9, a10, a11⟩ := e6
          refine ⟨a1, a2, a3, a4, a5, a6, a7, a8, a9, fun k hk => ?_, fun sd k v g1 g2 g3 => ?_⟩
          · show upd (Bk_latest s) i m2 k = _
            by_cases q : k = i
            · subst q; rw [us, hf]; simp
            · rw [un q, a10 k hk]
              by_cases q2 : k < i
              · simp [q2, show k < i + 1 by omega]
              · simp [q2, show ¬ k < i + 1 by omega]
          · show zN (Bd_nets (Bk_board s)) i 2 ((sd * 8 + k) * 8 + v) = _
            by_cases q : k = i
            · subst q; rw [zN_0 g1 g2 g3, hf]; simp
            · rw [zN_1 hi g3 q g2, a11 sd k v g1 g2 g3]
              by_cases q2 : k < i
              · simp [q2, show k < i + 1 by omega]
              · simp [q2, show ¬ k < i + 1 by omega]
        · have := cc n (fun s => some ((Bk_lapsed s - Bk_lapsed bk0), s))
          rw [hf, if_pos rfl] at this
          exact this
      · have hf : dueB s i (nI ck) = false := by
          unfold dueB
          rw [q4, k2, nI_add, ← e8]
          simp (disch := omega) only [leN, m2E]
          simp
          omega
        rw [if_neg hd] at rr
        refine ⟨s, (c, mo sm x'), ⟨x', rfl, e2, e3, e4, e5, ad0 (hdue ▸ hf)⟩, ?_, rr⟩
        have := cc n (fun s => some ((Bk_lapsed s - Bk_lapsed bk0), s))
        rw [hf, if_neg (by simp)] at this
        exact this
  · refine ⟨rfl, rfl, rfl, rfl, rfl, rfl, rfl, rfl, hck, fun k hk => ?_, fun sd k v g1 g2 g3 => ?_⟩
    · rw [if_neg (by omega)]
    · rw [if_neg (by omega)]
theorem advance2 {b h kc vc T B t : Nat} {bk : BkT} {wd : Nat → Int64} {x : Nat → Int32} (sm : MoT) (hb : b < 3) (ht : t ≤ 9999) (hB : B ≤ 100000000) (hBd : RBd b h T (Bk_board bk) x) (hR : RBk b kc vc T B bk wd x) :
    Ok2 (f_X1_advance bk (nI t)) (f_X9_ticks (mo sm x) (nI b) (nI t))
      (fun r r' => r.1 = r'.1 ∧ ∃ x', r'.2 = mo sm x' ∧ RBd b h T (Bk_board r.2) x' ∧ RBk b kc vc T B r.2 wd x' ∧ FrO b x x' ∧ ADi bk r.2 (if Bk_clock bk < nI t then nI t else Bk_clock bk) 8) := by
  obtain ⟨h1, h2, h3, h4, h5, h6, h7, h8, h9⟩ := hR
  obtain ⟨t1, t2, ⟨ck, c1, c2, c3⟩, t4, t5, t6⟩ := h5
  have g := r_get sm x (b := b) (i := 5) hb (by omega)
  rw [c3] at g
  unfold f_X1_advance f_X9_ticks
  refine Ok2.gl (Ok2.br g ?_)
  rw [c2]
  by_cases q : t ≤ ck
  · have e1 : (if nI ck < nI t then nI t else nI ck) = nI ck := by
      simp (disch := omega) only [ltN, if_neg]
    rw [e1]
    refine Ok2.rt (nI_le q (by omega)) ?_
    have e2 : Bk_w_clock bk (nI ck) = bk := by
      rw [← c2]
    rw [e2]
    obtain ⟨r, r', p1, p2, p3⟩ := adv_loop sm hb hB c2 hBd ⟨h1, h2, h3, h4, ⟨t1, t2, ⟨ck, c1, c2, c3⟩, t4, t5, t6⟩, h6, h7, h8, h9⟩
    exact ⟨r, (r'.1, r'.2), p1, by rw [p2]; rfl, p3⟩
  · have e1 : (if nI ck < nI t then nI t else nI ck) = nI t := by
      simp (disch := omega) only [ltN, if_pos]
    rw [e1]
    refine Ok2.rf (nI_ge (by omega) (by omega)) ?_
    have s1 := r_set sm x (b := b) (i := 5) (nI t) hb (by omega)
    refine Ok2.br s1 ?_
    have hBd' : RBd b h T (Bk_board (Bk_w_clock bk (nI t))) (upd x (6571 * b + 5) (nI t)) := by
      obtain ⟨a1, a2, a3, a4, a5, a6, a7⟩ := hBd
      exact ⟨fun i hi => by rw [xn_n x _ (by omega) i hi]; exact a1 i hi, a2, by rw [un (by omega)]; exact a3, a4, fun i hi => by rw [un (by omega)]; exact a5 i hi, RL_fr a6 (fun i hi => un (by omega)), fun k l r p1 p2 p3 => by rw [un (by omega)]; exact a7 k l r p1 p2 p3⟩
    have hR' : RBk b kc vc T B (Bk_w_clock bk (nI t)) wd (upd x (6571 * b + 5) (nI t)) := by
      refine ⟨⟨h, hBd'⟩, h2.fr (un (by omega)) (un (by omega)), h3.fr (fun i p1 p2 => un (by omega)), ?_, ?_, ⟨h6.1, fun k l r p1 p2 p3 => by rw [un (by omega)]; exact h6.2 k l r p1 p2 p3⟩, h7.fr (un (by omega)) (fun i p1 p2 => un (by omega)), h8.fr (Nat.le_refl _) (fun i p1 p2 => un (by omega)), h9⟩
      · intro k hk
        rw [un (by omega), un (by omega)]
        exact h4 k hk
      · obtain ⟨kp, a1, a2, a3⟩ := t1
        obtain ⟨lt, b1, b2, b3⟩ := t2
        exact ⟨⟨kp, a1, a2, by rw [un (by omega)]; exact a3⟩, ⟨lt, b1, b2, by rw [un (by omega)]; exact b3⟩, ⟨t, ht, rfl, us⟩, by rw [un (by omega)]; exact t4, by rw [un (by omega)]; exact t5, fun k hk => by rw [un (by omega)]; exact t6 k hk⟩
    obtain ⟨r, r', p1, p2, p3, x', p4, p5, p6, p7, p8⟩ := adv_loop sm hb hB (rfl : Bk_clock (Bk_w_clock bk (nI t)) = nI t) hBd' hR'
    exact ⟨r, (r'.1, r'.2), p1, by rw [p2]; rfl, p3, x', p4, p5, p6, ((FrO.rf b x).u (by omega)).tr p7, p8⟩
