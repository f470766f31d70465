/-! names, lines -/
/-- the words of a sort, on both sides -/
def RW1 (so c : Nat) (ws : WdT) (rw : Nat → Int64) (rm : Nat → Int32) : Prop := c ≤ 8 ∧ Wd_count ws = nI c ∧ rm so = nI c ∧ ∀ k, k < c → WR (Wd_packs ws k) (rw (8 * so + k))
theorem c_number (ws : WdT) (w : Int64) {c k0 : Nat} (hc : c ≤ 8) (hn : Wd_count ws = nI c) (h0 : k0 ≤ c) (h1 : ∀ j, j < k0 → ¬ Wd_packs ws j = w) (h2 : k0 < c → Wd_packs ws k0 = w) : f_X7_numberOf ws w = some (if k0 < c then nI k0 else m1) := by
  unfold f_X7_numberOf
  rw [glE, glE, li_0]
  refine runL (fun f i => f_X7_numberOf_L2_5 ws w (fun (x3_2 : Int32) => some (x3_2)) (fun (_ : Unit) => some ((-1 : Int32))) f (nI i)) _ (p := 0) (p' := k0) ?_ ?_ 10000 0 (Nat.le_refl _) (Nat.zero_le _) (by omega)
  · intro f i _ b
    show f_X7_numberOf_L2_5 ws w _ _ (f + 1) (nI i) = f_X7_numberOf_L2_5 ws w _ _ f (nI (i + 1))
    rw [f_X7_numberOf_L2_5]
    have g1 : ¬ Wd_count ws ≤ nI i := by rw [hn]; exact nI_ge (by omega) (by omega)
    have g2 : ¬ (8 : Int32) ≤ nI i := nI_ge (b := 8) (by omega) (by omega)
    have g3 : inb (nI i) 8 := inbN (by omega) (by omega)
    have g4 : ¬ lg_cmp (Wd_packs ws (ix (nI i))) w = 0 := by rw [lgc, ixN (by omega)]; exact h1 i b
    refine (if_neg g1).trans ((if_neg g2).trans ((if_pos g3).trans ((if_neg g4).trans ?_)))
    rw [nI_1]
  · intro f
    show f_X7_numberOf_L2_5 ws w _ _ (f + 1) (nI k0) = _
    rw [f_X7_numberOf_L2_5]
    by_cases q : k0 < c
    · have g1 : ¬ Wd_count ws ≤ nI k0 := by rw [hn]; exact nI_ge (by omega) (by omega)
      have g2 : ¬ (8 : Int32) ≤ nI k0 := nI_ge (b := 8) (by omega) (by omega)
      have g3 : inb (nI k0) 8 := inbN (by omega) (by omega)
      have g4 : lg_cmp (Wd_packs ws (ix (nI k0))) w = 0 := by rw [lgc, ixN (by omega)]; exact h2 q
      rw [if_pos q]
      exact (if_neg g1).trans ((if_neg g2).trans ((if_pos g3).trans (if_pos g4)))
    · have g1 : Wd_count ws ≤ nI k0 := by rw [hn]; exact nI_le (by omega) (by omega)
      rw [if_neg q]
      exact if_pos g1
theorem c_addw (ws : WdT) (w : Int64) {c : Nat} (hc : c < 8) (hn : Wd_count ws = nI c) : f_X7_isFull ws = some 0 ∧ f_X7_add ws w = some (nI c, (vp_updL (Wd_packs ws) c w, nI (c + 1))) := by
  have g1 : f_X7_isFull ws = some 0 := by
    unfold f_X7_isFull
    rw [hn]
    exact if_pos (nI_lt hc (by omega))
  refine ⟨g1, ?_⟩
  unfold f_X7_add
  refine eb g1 ((if_pos rfl).trans ?_)
  rw [hn]
  refine (if_pos (inbN hc (by omega))).trans ?_
  rw [ixN (by omega), nI_1, show nI (c + 1) - (1 : Int32) = nI c from (subN (b := 1) (by omega)).trans (by rw [Nat.add_sub_cancel])]
theorem c_full (ws : WdT) (hn : Wd_count ws = nI 8) : f_X7_isFull ws = some 1 := by
  unfold f_X7_isFull
  rw [hn]
  exact if_neg (by decide)
theorem r_nloop (s : MoT) (K : Int32 → Option (Int32 × MoT)) {so c k0 : Nat} (hs : so < 2) (hc : c ≤ 8) (hn : Mo_readMany s so = nI c) (h0 : k0 ≤ c) (h1 : ∀ j, j < k0 → ¬ Mo_readWords s (8 * so + j) = Mo_word s) (h2 : k0 < c → Mo_readWords s (8 * so + k0) = Mo_word s) : f_X9_readName_L78_19 (nI so) s K 10000 (0 : Int32) = K (nI k0) := by
  rw [li_0]
  have i1 : inb (nI so) 2 := inbN hs (by omega)
  have i2 : ix (nI so) = so := ixN (by omega)
  have i3 : ∀ i, (8 : Int32) * nI so + nI i = nI (8 * so + i) := fun i => by
    simp (disch := omega) only [li_0, li_1, li_2, li_3, li_4, li_5, li_6, li_7, li_8, li_9, li_10, li_11, li_12, li_13, li_14, li_15, li_16, li_20, li_30, li_31, li_32, li_40, li_42, li_45, li_48, li_57, li_58, li_59, li_60, li_64, li_74, li_75, li_81, li_97, li_122, li_124, li_143, li_151, li_159, li_167, li_175, li_200, li_255, li_648, li_650, li_823, li_900, li_999, li_1123, li_1298, li_1363, li_1379, li_2592, li_6571, li_9999, li_65536, li_65537, ng1, ng2, nI_add, pk_mul, remN, divN, inbI, ixN, leN, ltN, eqN, m1E, m1E', m2E, m12, m21, bsm, glE, b2iT, b2iF, if_pos, if_neg, ite_true, ite_false, not_true, not_false_iff, reduceCtorEq]
  refine runL (fun f i => f_X9_readName_L78_19 (nI so) s K f (nI i)) _ (p := 0) (p' := k0) ?_ ?_ 10000 0 (Nat.le_refl _) (Nat.zero_le _) (by omega)
  · intro f i _ b
    show f_X9_readName_L78_19 (nI so) s K (f + 1) (nI i) = f_X9_readName_L78_19 (nI so) s K f (nI (i + 1))
    rw [f_X9_readName_L78_19, i2, i3, ixN (by omega), hn]
    have g1 : ¬ nI c ≤ nI i := nI_ge (by omega) (by omega)
    have g2 : inb (nI (8 * so + i)) 16 := inbN (by omega) (by omega)
    have g4 : ¬ lg_cmp (Mo_readWords s (8 * so + i)) (Mo_word s) = 0 := by rw [lgc]; exact h1 i b
    refine (if_pos i1).trans ((if_neg g1).trans ((if_pos g2).trans ((if_neg g4).trans ?_)))
    rw [nI_1]
  · intro f
    show f_X9_readName_L78_19 (nI so) s K (f + 1) (nI k0) = _
    rw [f_X9_readName_L78_19, i2, i3, ixN (by omega), hn]
    by_cases q : k0 < c
    · have g1 : ¬ nI c ≤ nI k0 := nI_ge (by omega) (by omega)
      have g2 : inb (nI (8 * so + k0)) 16 := inbN (by omega) (by omega)
      have g4 : lg_cmp (Mo_readWords s (8 * so + k0)) (Mo_word s) = 0 := by rw [lgc]; exact h2 q
      exact (if_pos i1).trans ((if_neg g1).trans ((if_pos g2).trans (if_pos g4)))
    · have g1 : nI c ≤ nI k0 := nI_le (by omega) (by omega)
      exact (if_pos i1).trans (if_pos g1)
theorem resv2 {tp : TpT} {s : MoT} {rd : RdT} (ht : Rd_tape rd = tp) (h : TK (Tp_kind tp) (Mo_token s) (Tp_word tp) (Mo_word s) (Tp_whole tp) (Mo_number s)) : (f_X3_isReserved rd = some 0 ∧ ∀ (A B : Option (Int32 × MoT)), ((f_X9_isWord s 0).bind fun r0 => if r0 = 0 then ((f_X9_isWord s 7).bind fun r7 => if r7 = 0 then ((f_X9_isWord s 8).bind fun r8 => if r8 = 0 then ((f_X9_isWord s 9).bind fun r9 => if r9 = 0 then ((f_X9_isWord s 10).bind fun r10 => if r10 = 0 then ((f_X9_isWord s 11).bind fun r11 => if r11 = 0 then A else B) else B) else B) else B) else B) else B) = A) ∨ (f_X3_isReserved rd = some 1 ∧ ∀ (A B : Option (Int32 × MoT)), ((f_X9_isWord s 0).bind fun r0 => if r0 = 0 then ((f_X9_isWord s 7).bind fun r7 => if r7 = 0 then ((f_X9_isWord s 8).bind fun r8 => if r8 = 0 then ((f_X9_isWord s 9).bind fun r9 => if r9 = 0 then ((f_X9_isWord s 10).bind fun r10 => if r10 = 0 then ((f_X9_isWord s 11).bind fun r11 => if r11 = 0 then A else B) else B) else B) else B) else B) else B) = B) := by
  subst ht
  unfold f_X3_isReserved
  rcases say2 (Rd_tape rd) s (i := 0) (by omega) (v := 1802724708) (by decide +kernel) h with ⟨a0, b0, _⟩ | ⟨a0, b0⟩
  · exact Or.inr ⟨eb a0 (if_neg n10), fun A B => eb b0 (if_neg n10)⟩
  rcases say2 (Rd_tape rd) s (i := 7) (by omega) (v := 7632240) (by decide +kernel) h with ⟨a7, b7, _⟩ | ⟨a7, b7⟩
  · exact Or.inr ⟨eb a0 ((if_pos rfl).trans (eb a7 (if_neg n10))), fun A B => eb b0 ((if_pos rfl).trans (eb b7 (if_neg n10)))⟩
  rcases say2 (Rd_tape rd) s (i := 8) (by omega) (v := 1801675106) (by decide +kernel) h with ⟨a8, b8, _⟩ | ⟨a8, b8⟩
  · exact Or.inr ⟨eb a0 ((if_pos rfl).trans (eb a7 ((if_pos rfl).trans (eb a8 (if_neg n10))))), fun A B => eb b0 ((if_pos rfl).trans (eb b7 ((if_pos rfl).trans (eb b8 (if_neg n10)))))⟩
  rcases say2 (Rd_tape rd) s (i := 9) (by omega) (v := 1801677172) (by decide +kernel) h with ⟨a9, b9, _⟩ | ⟨a9, b9⟩
  · exact Or.inr ⟨eb a0 ((if_pos rfl).trans (eb a7 ((if_pos rfl).trans (eb a8 ((if_pos rfl).trans (eb a9 (if_neg n10))))))), fun A B => eb b0 ((if_pos rfl).trans (eb b7 ((if_pos rfl).trans (eb b8 ((if_pos rfl).trans (eb b9 (if_neg n10)))))))⟩
  rcases say2 (Rd_tape rd) s (i := 10) (by omega) (v := 31074) (by decide +kernel) h with ⟨a10, b10, _⟩ | ⟨a10, b10⟩
  · exact Or.inr ⟨eb a0 ((if_pos rfl).trans (eb a7 ((if_pos rfl).trans (eb a8 ((if_pos rfl).trans (eb a9 ((if_pos rfl).trans (eb a10 (if_neg n10))))))))), fun A B => eb b0 ((if_pos rfl).trans (eb b7 ((if_pos rfl).trans (eb b8 ((if_pos rfl).trans (eb b9 ((if_pos rfl).trans (eb b10 (if_neg n10)))))))))⟩
  rcases say2 (Rd_tape rd) s (i := 11) (by omega) (v := 29793) (by decide +kernel) h with ⟨a11, b11, _⟩ | ⟨a11, b11⟩
  · exact Or.inr ⟨eb a0 ((if_pos rfl).trans (eb a7 ((if_pos rfl).trans (eb a8 ((if_pos rfl).trans (eb a9 ((if_pos rfl).trans (eb a10 ((if_pos rfl).trans (eb a11 (if_neg n10))))))))))), fun A B => eb b0 ((if_pos rfl).trans (eb b7 ((if_pos rfl).trans (eb b8 ((if_pos rfl).trans (eb b9 ((if_pos rfl).trans (eb b10 ((if_pos rfl).trans (eb b11 (if_neg n10)))))))))))⟩
  exact Or.inl ⟨eb a0 ((if_pos rfl).trans (eb a7 ((if_pos rfl).trans (eb a8 ((if_pos rfl).trans (eb a9 ((if_pos rfl).trans (eb a10 ((if_pos rfl).trans (eb a11 ((if_pos rfl).trans (rfl)))))))))))), fun A B => eb b0 ((if_pos rfl).trans (eb b7 ((if_pos rfl).trans (eb b8 ((if_pos rfl).trans (eb b9 ((if_pos rfl).trans (eb b10 ((if_pos rfl).trans (eb b11 ((if_pos rfl).trans (rfl))))))))))))⟩
theorem name2_0 {n p c : Nat} {t : MoT} {u : UT} (q : QT) {rd : RdT} (h : At n t p u (Rd_tape rd)) (hw : RW1 0 c (Rd_keys rd) q.1 q.2.1) :
    Ok2 (f_X3_readName_0 rd) (f_X9_readName (pu t p u q) (nI 0)) (fun r s => (∃ k c' ws' q', k < c' ∧ c ≤ c' ∧ RW1 0 c' ws' q'.1 q'.2.1 ∧ (∀ j, ¬ (8 * 0 + c ≤ j ∧ j < 8 * 0 + 8) → q'.1 j = q.1 j) ∧ (∀ j, j ≠ 0 → q'.2.1 j = q.2.1 j) ∧ q'.2.2 = q.2.2 ∧ s.1 = nI k ∧ Go n t p (fun tp' => Rd_w_number (Rd_w_keys (Rd_w_tape rd tp') ws') (nI k)) q' r s.2) ∨ (r.1 = 0 ∧ De t r.2 s.2)) := by
  have h8 := h.2.2.2.2.2.2.2
  have dead : ∀ c, 1 ≤ c → c ≤ 5 → ∀ v, ∃ s, f_X9_flaw (pu t p u q) (nI c) = some s ∧ De t (Rd_w_place (Rd_w_fault (Rd_w_number rd v) (nI c)) (Tp_start (Rd_tape rd))) s ∧ De t (Rd_w_place (Rd_w_fault rd (nI c)) (Tp_start (Rd_tape rd))) s ∧ ¬ Mo_fault s ≤ 0 := fun c h1 h2 v => by
    obtain ⟨s, f1, f2⟩ := flaw2 (q := q) h (c := c) h1 h2
    obtain ⟨g1, g2, sp, nu, w, q', g3⟩ := id f2
    exact ⟨s, f1, f2, f2, by rw [g3]; exact (dd0 g2).1⟩
  unfold f_X3_readName_0 f_X9_readName
  by_cases kw : Tp_kind (Rd_tape rd) = nI 1 ∧ u.1 = nI 2 ∧ WR (Tp_word (Rd_tape rd)) u.2.2.2
  · obtain ⟨k1, k2, k3⟩ := kw
    rcases resv2 (rd := rd) (s := pu t p u q) rfl h8 with ⟨r1, r2⟩ | ⟨r1, r2⟩
    · obtain ⟨c8, cn, cm, cw⟩ := hw
      obtain ⟨k0, a1, a2, a3, a4⟩ := runE (fun j => ¬ Wd_packs (Rd_keys rd) j = Tp_word (Rd_tape rd)) c c 0 (Nat.zero_le _) (by omega)
      have a4 : k0 < c → Wd_packs (Rd_keys rd) k0 = Tp_word (Rd_tape rd) := fun g => Classical.not_not.mp (a4 g)
      have n1 := c_number (Rd_keys rd) (Tp_word (Rd_tape rd)) c8 cn a2 (fun j hj => a3 j (Nat.zero_le _) hj) a4
      have n2 := fun K => r_nloop (pu t p u q) K (so := 0) (c := c) (k0 := k0) (by omega) c8 cm a2 (fun j hj e => a3 j (Nat.zero_le _) hj (((cw j (by omega)).eq k3).mpr e)) (fun g => ((cw k0 g).eq k3).mp (a4 g))
      have l1 : ∀ {R : Type} (o : R) (k : R → Option (Int32 × MoT)), glt o k = k o := fun o k => rfl
      by_cases g : k0 < c
      · rw [if_pos g] at n1
        obtain ⟨tp', p', u', x1, x2, x3, x4, x5⟩ := nx q h
        have y8 : ¬ nI k0 = (8 : Int32) := fun e => by have := (nI_eq (a := k0) (b := 8) (by omega) (by omega)).mp e; omega
        have yc : ¬ nI k0 = Mo_readMany (pu t p u q) (ix (nI 0)) := fun e => by
          have e2 : nI k0 = nI c := e.trans cm
          have := (nI_eq (by omega) (by omega)).mp e2
          omega
        have ym : ¬ nI k0 = (-1 : Int32) := fun e => by have := (m1E (n := k0) (by omega)).mp e; exact this
        refine ⟨_, _, (if_pos k1).trans (eb r1 ((if_pos rfl).trans (eb n1 ((if_neg ym).trans (eb x1 rfl))))), (l1 _ _).trans ((if_pos k2).trans ((r2 _ _).trans ((if_pos z00).trans ((l1 _ _).trans ((n2 _).trans ((if_neg y8).trans ((if_pos (by decide)).trans ((if_neg yc).trans (eb x2 rfl))))))))), Or.inl ⟨k0, c, Rd_keys rd, q, g, Nat.le_refl _, ⟨c8, cn, cm, cw⟩, fun _ _ => rfl, fun _ _ => rfl, rfl, rfl, tp', p', u', rfl, rfl, x3, x4, x5⟩⟩
      · have ec : k0 = c := by omega
        rw [if_neg g] at n1
        by_cases g8 : c < 8
        · obtain ⟨w1, w2⟩ := c_addw (Rd_keys rd) (Tp_word (Rd_tape rd)) g8 cn
          obtain ⟨tp', p', u', x1, x2, x3, x4, x5⟩ := nx (vp_updL q.1 (8 * 0 + c) u.2.2.2, upd q.2.1 0 (nI (c + 1)), q.2.2) h
          have y8 : ¬ nI k0 = (8 : Int32) := fun e => by have := (nI_eq (a := k0) (b := 8) (by omega) (by omega)).mp e; omega
          have yc : nI k0 = Mo_readMany (pu t p u q) (ix (nI 0)) := by rw [ec]; exact cm.symm
          have i3 : (8 : Int32) * nI 0 + nI k0 = nI (8 * 0 + c) := by
            rw [ec]
            simp (disch := omega) only [li_0, li_1, li_2, li_3, li_4, li_5, li_6, li_7, li_8, li_9, li_10, li_11, li_12, li_13, li_14, li_15, li_16, li_20, li_30, li_31, li_32, li_40, li_42, li_45, li_48, li_57, li_58, li_59, li_60, li_64, li_74, li_75, li_81, li_97, li_122, li_124, li_143, li_151, li_159, li_167, li_175, li_200, li_255, li_648, li_650, li_823, li_900, li_999, li_1123, li_1298, li_1363, li_1379, li_2592, li_6571, li_9999, li_65536, li_65537, ng1, ng2, nI_add, pk_mul, remN, divN, inbI, ixN, leN, ltN, eqN, m1E, m1E', m2E, m12, m21, bsm, glE, b2iT, b2iF, if_pos, if_neg, ite_true, ite_false, not_true, not_false_iff, reduceCtorEq]
          have i4 : inb ((8 : Int32) * nI 0 + nI k0) 16 := by rw [i3]; exact inbN (by omega) (by omega)
          have x2' : f_X9_next (Mo_w_readMany (Mo_w_readWords (pu t p u q) (vp_updL (Mo_readWords (pu t p u q)) (ix ((8 : Int32) * nI 0 + nI k0)) (Mo_word (pu t p u q)))) (upd (Mo_readMany (pu t p u q)) (ix (nI 0)) ((Mo_readMany (pu t p u q)) (ix (nI 0)) + (1 : Int32)))) = some (pu t p' u' (vp_updL q.1 (8 * 0 + c) u.2.2.2, upd q.2.1 0 (nI (c + 1)), q.2.2)) := by
            rw [i3, ixN (show 8 * 0 + c < 2147483648 by omega), show (Mo_readMany (pu t p u q)) (ix (nI 0)) + (1 : Int32) = nI (c + 1) from (congrArg (fun z : Int32 => z + (1 : Int32)) cm).trans (nI_1 c)]
            exact x2
          refine ⟨_, _, (if_pos k1).trans (eb r1 ((if_pos rfl).trans (eb n1 ((if_pos rfl).trans (eb w1 ((if_pos rfl).trans (eb w2 (eb x1 rfl)))))))), (l1 _ _).trans ((if_pos k2).trans ((r2 _ _).trans ((if_pos z00).trans ((l1 _ _).trans ((n2 _).trans ((if_neg y8).trans ((if_pos (by decide)).trans ((if_pos yc).trans ((if_pos i4).trans ((if_pos (by decide)).trans ((if_pos (by decide)).trans (eb x2' rfl)))))))))))), Or.inl ⟨c, c + 1, (vp_updL (Wd_packs (Rd_keys rd)) c (Tp_word (Rd_tape rd)), nI (c + 1)), (vp_updL q.1 (8 * 0 + c) u.2.2.2, upd q.2.1 0 (nI (c + 1)), q.2.2), by omega, by omega, ⟨by omega, rfl, (us : upd q.2.1 0 (nI (c + 1)) 0 = nI (c + 1)), fun k hk => ?_⟩, fun j hj => uLn (by omega), fun j hj => un hj, rfl, by rw [ec], tp', p', u', rfl, rfl, x3, x4, x5⟩⟩
          show WR (vp_updL (Wd_packs (Rd_keys rd)) c (Tp_word (Rd_tape rd)) k) (vp_updL q.1 (8 * 0 + c) u.2.2.2 (8 * 0 + k))
          by_cases e : k = c
          · subst e
            rw [uL, uL]
            exact k3
          · rw [uLn e, uLn (by omega)]
            exact cw k (by omega)
        · have c88 : c = 8 := by omega
          have w1 := c_full (Rd_keys rd) (by rw [cn, c88])
          obtain ⟨s, d1, d2, d3, d4⟩ := dead 4 (by omega) (by omega) m1
          have y8 : nI k0 = (8 : Int32) := by rw [ec, c88]; rfl
          exact ⟨_, _, (if_pos k1).trans (eb r1 ((if_pos rfl).trans (eb n1 ((if_pos rfl).trans (eb w1 ((if_neg n10).trans (c_fail _ 4))))))), (l1 _ _).trans ((if_pos k2).trans ((r2 _ _).trans ((if_pos z00).trans ((l1 _ _).trans ((n2 _).trans ((if_pos y8).trans (eb d1 rfl))))))), Or.inr ⟨rfl, d2⟩⟩
    · obtain ⟨s, d1, d2, d3, d4⟩ := dead 1 (by omega) (by omega) m1
      exact ⟨_, _, (if_pos k1).trans (eb r1 ((if_neg n10).trans (c_fail rd 1))), (eg ((if_pos k2).trans ((r2 _ _).trans (eb d1 (if_neg d4))))), Or.inr ⟨rfl, d3⟩⟩
  · have ne : ¬ Tp_kind (Rd_tape rd) = nI 1 ∧ ¬ u.1 = nI 2 := by
      rcases h8 with ⟨k1, k2⟩ | ⟨k1, k2, k3⟩ | ⟨k1, k2, _⟩ | ⟨k1, k2⟩ | ⟨k1, k2⟩
      · rw [k1, k2]; decide
      · exact absurd ⟨k1, k2, k3⟩ kw
      · rw [k1, k2]; decide
      · rw [k1, k2]; decide
      · rw [k1, k2]; decide
    obtain ⟨s, d1, d2, d3, d4⟩ := dead 1 (by omega) (by omega) m1
    exact ⟨_, _, (if_neg ne.1).trans (c_fail rd 1), (eg ((if_neg ne.2).trans (eb d1 (if_neg d4)))), Or.inr ⟨rfl, d3⟩⟩
theorem name2_1 {n p c : Nat} {t : MoT} {u : UT} (q : QT) {rd : RdT} (h : At n t p u (Rd_tape rd)) (hw : RW1 1 c (Rd_values rd) q.1 q.2.1) :
    Ok2 (f_X3_readName_1 rd) (f_X9_readName (pu t p u q) (nI 1)) (fun r s => (∃ k c' ws' q', k < c' ∧ c ≤ c' ∧ RW1 1 c' ws' q'.1 q'.2.1 ∧ (∀ j, ¬ (8 * 1 + c ≤ j ∧ j < 8 * 1 + 8) → q'.1 j = q.1 j) ∧ (∀ j, j ≠ 1 → q'.2.1 j = q.2.1 j) ∧ q'.2.2 = q.2.2 ∧ s.1 = nI k ∧ Go n t p (fun tp' => Rd_w_number (Rd_w_values (Rd_w_tape rd tp') ws') (nI k)) q' r s.2) ∨ (r.1 = 0 ∧ De t r.2 s.2)) := by
  have h8 := h.2.2.2.2.2.2.2
  have dead : ∀ c, 1 ≤ c → c ≤ 5 → ∀ v, ∃ s, f_X9_flaw (pu t p u q) (nI c) = some s ∧ De t (Rd_w_place (Rd_w_fault (Rd_w_number rd v) (nI c)) (Tp_start (Rd_tape rd))) s ∧ De t (Rd_w_place (Rd_w_fault rd (nI c)) (Tp_start (Rd_tape rd))) s ∧ ¬ Mo_fault s ≤ 0 := fun c h1 h2 v => by
    obtain ⟨s, f1, f2⟩ := flaw2 (q := q) h (c := c) h1 h2
    obtain ⟨g1, g2, sp, nu, w, q', g3⟩ := id f2
    exact ⟨s, f1, f2, f2, by rw [g3]; exact (dd0 g2).1⟩
  unfold f_X3_readName_1 f_X9_readName
  by_cases kw : Tp_kind (Rd_tape rd) = nI 1 ∧ u.1 = nI 2 ∧ WR (Tp_word (Rd_tape rd)) u.2.2.2
  · obtain ⟨k1, k2, k3⟩ := kw
    rcases resv2 (rd := rd) (s := pu t p u q) rfl h8 with ⟨r1, r2⟩ | ⟨r1, r2⟩
    · obtain ⟨c8, cn, cm, cw⟩ := hw
      obtain ⟨k0, a1, a2, a3, a4⟩ := runE (fun j => ¬ Wd_packs (Rd_values rd) j = Tp_word (Rd_tape rd)) c c 0 (Nat.zero_le _) (by omega)
      have a4 : k0 < c → Wd_packs (Rd_values rd) k0 = Tp_word (Rd_tape rd) := fun g => Classical.not_not.mp (a4 g)
      have n1 := c_number (Rd_values rd) (Tp_word (Rd_tape rd)) c8 cn a2 (fun j hj => a3 j (Nat.zero_le _) hj) a4
      have n2 := fun K => r_nloop (pu t p u q) K (so := 1) (c := c) (k0 := k0) (by omega) c8 cm a2 (fun j hj e => a3 j (Nat.zero_le _) hj (((cw j (by omega)).eq k3).mpr e)) (fun g => ((cw k0 g).eq k3).mp (a4 g))
      have l1 : ∀ {R : Type} (o : R) (k : R → Option (Int32 × MoT)), glt o k = k o := fun o k => rfl
      by_cases g : k0 < c
      · rw [if_pos g] at n1
        obtain ⟨tp', p', u', x1, x2, x3, x4, x5⟩ := nx q h
        have y8 : ¬ nI k0 = (8 : Int32) := fun e => by have := (nI_eq (a := k0) (b := 8) (by omega) (by omega)).mp e; omega
        have yc : ¬ nI k0 = Mo_readMany (pu t p u q) (ix (nI 1)) := fun e => by
          have e2 : nI k0 = nI c := e.trans cm
          have := (nI_eq (by omega) (by omega)).mp e2
          omega
        have ym : ¬ nI k0 = (-1 : Int32) := fun e => by have := (m1E (n := k0) (by omega)).mp e; exact this
        refine ⟨_, _, (if_pos k1).trans (eb r1 ((if_pos rfl).trans (eb n1 ((if_neg ym).trans (eb x1 rfl))))), (l1 _ _).trans ((if_pos k2).trans ((r2 _ _).trans ((if_pos z00).trans ((l1 _ _).trans ((n2 _).trans ((if_neg y8).trans ((if_pos (by decide)).trans ((if_neg yc).trans (eb x2 rfl))))))))), Or.inl ⟨k0, c, Rd_values rd, q, g, Nat.le_refl _, ⟨c8, cn, cm, cw⟩, fun _ _ => rfl, fun _ _ => rfl, rfl, rfl, tp', p', u', rfl, rfl, x3, x4, x5⟩⟩
      · have ec : k0 = c := by omega
        rw [if_neg g] at n1
        by_cases g8 : c < 8
        · obtain ⟨w1, w2⟩ := c_addw (Rd_values rd) (Tp_word (Rd_tape rd)) g8 cn
          obtain ⟨tp', p', u', x1, x2, x3, x4, x5⟩ := nx (vp_updL q.1 (8 * 1 + c) u.2.2.2, upd q.2.1 1 (nI (c + 1)), q.2.2) h
          have y8 : ¬ nI k0 = (8 : Int32) := fun e => by have := (nI_eq (a := k0) (b := 8) (by omega) (by omega)).mp e; omega
          have yc : nI k0 = Mo_readMany (pu t p u q) (ix (nI 1)) := by rw [ec]; exact cm.symm
          have i3 : (8 : Int32) * nI 1 + nI k0 = nI (8 * 1 + c) := by
            rw [ec]
            simp (disch := omega) only [li_0, li_1, li_2, li_3, li_4, li_5, li_6, li_7, li_8, li_9, li_10, li_11, li_12, li_13, li_14, li_15, li_16, li_20, li_30, li_31, li_32, li_40, li_42, li_45, li_48, li_57, li_58, li_59, li_60, li_64, li_74, li_75, li_81, li_97, li_122, li_124, li_143, li_151, li_159, li_167, li_175, li_200, li_255, li_648, li_650, li_823, li_900, li_999, li_1123, li_1298, li_1363, li_1379, li_2592, li_6571, li_9999, li_65536, li_65537, ng1, ng2, nI_add, pk_mul, remN, divN, inbI, ixN, leN, ltN, eqN, m1E, m1E', m2E, m12, m21, bsm, glE, b2iT, b2iF, if_pos, if_neg, ite_true, ite_false, not_true, not_false_iff, reduceCtorEq]
          have i4 : inb ((8 : Int32) * nI 1 + nI k0) 16 := by rw [i3]; exact inbN (by omega) (by omega)
          have x2' : f_X9_next (Mo_w_readMany (Mo_w_readWords (pu t p u q) (vp_updL (Mo_readWords (pu t p u q)) (ix ((8 : Int32) * nI 1 + nI k0)) (Mo_word (pu t p u q)))) (upd (Mo_readMany (pu t p u q)) (ix (nI 1)) ((Mo_readMany (pu t p u q)) (ix (nI 1)) + (1 : Int32)))) = some (pu t p' u' (vp_updL q.1 (8 * 1 + c) u.2.2.2, upd q.2.1 1 (nI (c + 1)), q.2.2)) := by
            rw [i3, ixN (show 8 * 1 + c < 2147483648 by omega), show (Mo_readMany (pu t p u q)) (ix (nI 1)) + (1 : Int32) = nI (c + 1) from (congrArg (fun z : Int32 => z + (1 : Int32)) cm).trans (nI_1 c)]
            exact x2
          refine ⟨_, _, (if_pos k1).trans (eb r1 ((if_pos rfl).trans (eb n1 ((if_pos rfl).trans (eb w1 ((if_pos rfl).trans (eb w2 (eb x1 rfl)))))))), (l1 _ _).trans ((if_pos k2).trans ((r2 _ _).trans ((if_pos z00).trans ((l1 _ _).trans ((n2 _).trans ((if_neg y8).trans ((if_pos (by decide)).trans ((if_pos yc).trans ((if_pos i4).trans ((if_pos (by decide)).trans ((if_pos (by decide)).trans (eb x2' rfl)))))))))))), Or.inl ⟨c, c + 1, (vp_updL (Wd_packs (Rd_values rd)) c (Tp_word (Rd_tape rd)), nI (c + 1)), (vp_updL q.1 (8 * 1 + c) u.2.2.2, upd q.2.1 1 (nI (c + 1)), q.2.2), by omega, by omega, ⟨by omega, rfl, (us : upd q.2.1 1 (nI (c + 1)) 1 = nI (c + 1)), fun k hk => ?_⟩, fun j hj => uLn (by omega), fun j hj => un hj, rfl, by rw [ec], tp', p', u', rfl, rfl, x3, x4, x5⟩⟩
          show WR (vp_updL (Wd_packs (Rd_values rd)) c (Tp_word (Rd_tape rd)) k) (vp_updL q.1 (8 * 1 + c) u.2.2.2 (8 * 1 + k))
          by_cases e : k = c
          · subst e
            rw [uL, uL]
            exact k3
          · rw [uLn e, uLn (by omega)]
            exact cw k (by omega)
        · have c88 : c = 8 := by omega
          have w1 := c_full (Rd_values rd) (by rw [cn, c88])
          obtain ⟨s, d1, d2, d3, d4⟩ := dead 4 (by omega) (by omega) m1
          have y8 : nI k0 = (8 : Int32) := by rw [ec, c88]; rfl
          exact ⟨_, _, (if_pos k1).trans (eb r1 ((if_pos rfl).trans (eb n1 ((if_pos rfl).trans (eb w1 ((if_neg n10).trans (c_fail _ 4))))))), (l1 _ _).trans ((if_pos k2).trans ((r2 _ _).trans ((if_pos z00).trans ((l1 _ _).trans ((n2 _).trans ((if_pos y8).trans (eb d1 rfl))))))), Or.inr ⟨rfl, d2⟩⟩
    · obtain ⟨s, d1, d2, d3, d4⟩ := dead 1 (by omega) (by omega) m1
      exact ⟨_, _, (if_pos k1).trans (eb r1 ((if_neg n10).trans (c_fail rd 1))), (eg ((if_pos k2).trans ((r2 _ _).trans (eb d1 (if_neg d4))))), Or.inr ⟨rfl, d3⟩⟩
  · have ne : ¬ Tp_kind (Rd_tape rd) = nI 1 ∧ ¬ u.1 = nI 2 := by
      rcases h8 with ⟨k1, k2⟩ | ⟨k1, k2, k3⟩ | ⟨k1, k2, _⟩ | ⟨k1, k2⟩ | ⟨k1, k2⟩
      · rw [k1, k2]; decide
      · exact absurd ⟨k1, k2, k3⟩ kw
      · rw [k1, k2]; decide
      · rw [k1, k2]; decide
      · rw [k1, k2]; decide
    obtain ⟨s, d1, d2, d3, d4⟩ := dead 1 (by omega) (by omega) m1
    exact ⟨_, _, (if_neg ne.1).trans (c_fail rd 1), (eg ((if_neg ne.2).trans (eb d1 (if_neg d4)))), Or.inr ⟨rfl, d3⟩⟩
