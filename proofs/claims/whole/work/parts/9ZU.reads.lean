/-! a text read on both sides -/
def Pa (kc0 vc0 : Nat) (wd0 : Nat → Int64) (im : Bool) (t : MoT) (r : Int32 × RdT) (s : MoT) : Prop := (r.1 = 1 ∧ ∃ p u q', s = pu t p u q' ∧ TB (Rd_tape r.2) t ∧ RQ kc0 vc0 wd0 im r.2 q' ∧ Rd_hasDesk r.2 = nI 1 ∧ Rd_fault r.2 = nI 0 ∧ Rd_place r.2 = m1) ∨ (r.1 = 0 ∧ De t r.2 s)
theorem all2 {n kc0 vc0 : Nat} {wd0 : Nat → Int64} {im : Bool} {t : MoT} {rd : RdT} {q : QT} (tk a nu : Int32) (w : Int64) (hT : TB (Rd_tape rd) t) (hn : n ≤ 900) (hz : Mo_size t = nI n) (hk : RW1 0 kc0 (Rd_keys rd) q.1 q.2.1) (hv : RW1 1 vc0 (Rd_values rd) q.1 q.2.1) (hwk : ∀ k, k < kc0 → q.1 k = wd0 k) (hwv : ∀ k, k < vc0 → q.1 (8 + k) = wd0 (8 + k)) (hd : Rd_hasDesk rd = b2i im) :
    Ok2 (f_X3_readLines rd (nI n)) (f_X9_readAll (ps t (nI 0) tk a nu 0 w q) (b2i im)) (Pa kc0 vc0 wd0 im t) := by
  unfold f_X3_readLines f_X9_readAll
  have hb : isB (b2i im) := by cases im <;> decide
  have e0 : Mo_w_hasDesk (Mo_w_lines (ps t (nI 0) tk a nu 0 w q) (0 : Int32)) (b2i im) = ps t (nI 0) tk a nu 0 w (q_w_hasDesk (q_w_lines q 0) (b2i im)) := by rw [ps_w_lines, ps_w_hasDesk]
  rw [if_pos hb, e0]
  obtain ⟨tp1, p1, u1, x1, x2, x3, x4, x5⟩ := nx0 (t := t) (p := 0) tk a nu w (q_w_hasDesk (q_w_lines q 0) (b2i im)) (tp := Tp_w_at (Tp_w_end (Rd_tape rd) (nI n)) (0 : Int32)) hn hz (Nat.zero_le _) hT rfl rfl
  have rw1 : f_X6_rewind (Rd_tape rd) (nI n) = some tp1 := eb x1 rfl
  refine Ok2.bl rw1 (Ok2.br x2 ?_)
  have hQ : RQc kc0 vc0 wd0 im (Rd_w_place (Rd_w_fault (Rd_w_count (Rd_w_tape rd tp1) (0 : Int32)) (0 : Int32)) (-1 : Int32)) (q_w_hasDesk (q_w_lines q 0) (b2i im)) kc0 vc0 0 := by
    refine ⟨Nat.le_refl _, Nat.le_refl _, hk, hv, hwk, hwv, by omega, rfl, rfl, fun j hj => absurd hj (Nat.not_lt_zero _), ?_⟩
    cases im
    · exact Or.inl ⟨rfl, hd, rfl⟩
    · exact Or.inr ⟨hd, rfl, fun g => by cases g⟩
  obtain ⟨r2, s2, y1, y2, y3⟩ := line2 (rd := Rd_w_place (Rd_w_fault (Rd_w_count (Rd_w_tape rd tp1) (0 : Int32)) (0 : Int32)) (-1 : Int32)) x3 hQ rfl rfl
  refine Ok2.bl y1 (Ok2.br y2 ?_)
  rw [glE, glE]
  have dead : ∀ {rd' : RdT} {s : MoT}, De t rd' s → (if (Mo_token s) = (1 : Int32) then glt (fun (s0_9 : MoT) => if (Mo_hasDesk s0_9) = 0 then (f_X9_flaw s0_9 (5 : Int32)).bind fun r11 => some (r11) else some (s0_9)) fun J8 => J8 s else (f_X9_flaw s (1 : Int32)).bind fun r14 => if (Mo_hasDesk r14) = 0 then (f_X9_flaw r14 (5 : Int32)).bind fun r11 => some (r11) else some (r14)) = some s := fun {rd' s} hd => by
    obtain ⟨g1, g2, sp, nu, w, q', g3⟩ := hd
    rw [g3]
    have nt : ¬ Mo_token (ps t sp 0 (Rd_place rd') nu (Rd_fault rd') w q') = (1 : Int32) := by show ¬ (0 : Int32) = 1; decide
    refine (if_neg nt).trans (eb (dd_flaw g2 _) ?_)
    by_cases e : Mo_hasDesk (ps t sp 0 (Rd_place rd') nu (Rd_fault rd') w q') = 0
    · exact (if_pos e).trans (eb (dd_flaw g2 _) rfl)
    · exact if_neg e
  refine loop2 (P := Pa kc0 vc0 wd0 im t) ?_ ?_ n p1 0 10000 10000 r2 s2 y3 (fun _ => by omega) (Nat.zero_le _) (by omega) (by omega)
  · intro rd' p u q' hA nk hQ' hD' hF hP
    have hasD : ¬ yD_ q'.2.2 = 0 := by
      obtain ⟨kc, vc, c, hq⟩ := hQ'
      rcases hq.2.2.2.2.2.2.2.2.2.2 with ⟨d1, d2, d3⟩ | ⟨d2, d3, d4⟩
      · rw [hD'] at d2; exact absurd d2 (by decide)
      · rw [d3]; decide
    rcases hA.2.2.2.2.2.2.2 with ⟨k1, k2⟩ | hoth
    · have k1' : Tp_kind (Rd_tape rd') = 0 := k1
      have k2' : Mo_token (pu t p u q') = (1 : Int32) := k2
      exact ⟨_, _, (if_neg n10).trans (if_pos k1'), eg ((if_pos k2').trans (if_neg hasD)), Or.inl ⟨rfl, p, u, q', rfl, hA.2.2.2.1, hQ', hD', hF, hP⟩⟩
    · have nk0 : ¬ Tp_kind (Rd_tape rd') = 0 ∧ ¬ Mo_token (pu t p u q') = (1 : Int32) := by
        have e : Mo_token (pu t p u q') = u.1 := rfl
        rw [e]
        rcases hoth with ⟨k1, k2, _⟩ | ⟨k1, k2, _⟩ | ⟨k1, k2⟩ | ⟨k1, k2⟩
        · rw [k1, k2]; decide
        · rw [k1, k2]; decide
        · rw [k1, k2]; decide
        · rw [k1, k2]; decide
      obtain ⟨s, f1, f2⟩ := flaw2 (q := q') hA (c := 1) (by omega) (by omega)
      have e2 : (if (Mo_hasDesk s) = 0 then (f_X9_flaw s (5 : Int32)).bind fun r11 => some (r11) else some (s)) = some s := by
        obtain ⟨g1, g2, sp, nu, w, q'', g3⟩ := id f2
        rw [g3]
        by_cases e : Mo_hasDesk (ps t sp 0 (Rd_place (Rd_w_place (Rd_w_fault rd' (nI 1)) (Tp_start (Rd_tape rd')))) nu (Rd_fault (Rd_w_place (Rd_w_fault rd' (nI 1)) (Tp_start (Rd_tape rd')))) w q'') = 0
        · exact (if_pos e).trans (eb (dd_flaw g2 _) rfl)
        · exact if_neg e
      exact ⟨_, _, (if_neg n10).trans ((if_neg nk0.1).trans (eb (a := ((0 : Int32), Rd_w_place (Rd_w_fault rd' (nI 1)) (Tp_start (Rd_tape rd')))) rfl (if_pos rfl))), eg ((if_neg nk0.2).trans (eb f1 e2)), Or.inr ⟨rfl, f2⟩⟩
  · intro rd' s hD'
    exact ⟨_, _, if_pos rfl, dead hD', Or.inr ⟨rfl, hD'⟩⟩
/-! the words copied before -/
def cw (W : Nat → Int64) (so j : Nat) (R : Nat → Int64) : Nat → Int64 := fun i => if 8 * so ≤ i ∧ i < 8 * so + j then W i else R i
theorem r_cw (K : MoT → Option (Int32 × MoT)) (t : MoT) {so : Nat} (hs : so < 2) (sp tk a nu f : Int32) (w : Int64) (q : QT) : f_X9_reads_L52_18 (nI so) K 10000 (0 : Int32) (ps t sp tk a nu f w q) = K (ps t sp tk a nu f w (cw (Mo_words t) so 8 q.1, q.2)) := by
  rw [li_0]
  have i3 : ∀ i, (8 : Int32) * nI so + nI i = nI (8 * so + i) := fun i => by
    simp (disch := omega) only [li_0, li_1, li_2, li_3, li_4, li_5, li_6, li_7, li_8, li_9, li_10, li_11, li_12, li_13, li_14, li_15, li_16, li_20, li_30, li_31, li_32, li_40, li_42, li_45, li_48, li_57, li_58, li_59, li_60, li_64, li_74, li_75, li_81, li_97, li_122, li_124, li_143, li_151, li_159, li_167, li_175, li_200, li_255, li_648, li_650, li_823, li_900, li_999, li_1123, li_1298, li_1363, li_1379, li_2592, li_6571, li_9999, li_65536, li_65537, ng1, ng2, nI_add, pk_mul, remN, divN, inbI, ixN, leN, ltN, eqN, m1E, m1E', m2E, m12, m21, bsm, glE, b2iT, b2iF, if_pos, if_neg, ite_true, ite_false, not_true, not_false_iff, reduceCtorEq]
  have z : cw (Mo_words t) so 0 q.1 = q.1 := funext (fun i => if_neg (by omega))
  have main := runL (fun g i => f_X9_reads_L52_18 (nI so) K g (nI i) (ps t sp tk a nu f w (cw (Mo_words t) so i q.1, q.2))) (K (ps t sp tk a nu f w (cw (Mo_words t) so 8 q.1, q.2))) (p := 0) (p' := 8) ?_ ?_ 10000 0 (Nat.le_refl _) (Nat.zero_le _) (by omega)
  · simp only [z] at main
    exact main
  · intro g i _ b
    show f_X9_reads_L52_18 (nI so) K (g + 1) (nI i) (ps t sp tk a nu f w (cw (Mo_words t) so i q.1, q.2)) = f_X9_reads_L52_18 (nI so) K g (nI (i + 1)) (ps t sp tk a nu f w (cw (Mo_words t) so (i + 1) q.1, q.2))
    rw [f_X9_reads_L52_18, i3, ixN (by omega)]
    have g1 : ¬ (8 : Int32) ≤ nI i := nI_ge (b := 8) b (by omega)
    have g2 : inb (nI (8 * so + i)) 16 := inbN (by omega) (by omega)
    refine (if_neg g1).trans ((if_pos g2).trans ((if_pos g2).trans ?_))
    rw [ps_words, ps_readWords, ps_w_readWords, nI_1]
    have e : vp_updL (cw (Mo_words t) so i q.1) (8 * so + i) (Mo_words t (8 * so + i)) = cw (Mo_words t) so (i + 1) q.1 := by
      funext j
      by_cases c : j = 8 * so + i
      · subst c
        rw [uL]
        unfold cw
        rw [if_pos (by omega)]
      · rw [uLn c]
        unfold cw
        by_cases c2 : 8 * so ≤ j ∧ j < 8 * so + i
        · rw [if_pos c2, if_pos (by omega)]
        · rw [if_neg c2, if_neg (by omega)]
    show f_X9_reads_L52_18 (nI so) K g (nI (i + 1)) (ps t sp tk a nu f w (vp_updL (cw (Mo_words t) so i q.1) (8 * so + i) (Mo_words t (8 * so + i)), q.2)) = _
    rw [e]
  · intro g
    show f_X9_reads_L52_18 (nI so) K (g + 1) (nI 8) _ = _
    rw [f_X9_reads_L52_18]
    exact if_pos (Int32.le_refl _)
theorem get0 (s : MoT) {i : Nat} (hi : i < 6571) : f_X9_get s (0 : Int32) (nI i) = some (Mo_x s i) := by
  have e := r_get s (Mo_x s) (b := 0) (i := i) (by omega) hi
  rw [Nat.mul_zero, Nat.zero_add] at e
  exact e
theorem r_rs (p2 : Int32) (K : MoT → Option (Int32 × MoT)) (t : MoT) {so : Nat} (hs : so < 2) (sp tk a nu f : Int32) (w : Int64) (q : QT) (y : Int32) (hy : y = if p2 = 0 then 0 else Mo_x t (3 + so)) (g : Nat) : f_X9_reads_L22_8 p2 K (g + 1) (nI so) (ps t sp tk a nu f w q) = f_X9_reads_L22_8 p2 K g (nI (so + 1)) (ps t sp tk a nu f w (cw (Mo_words t) so 8 q.1, upd q.2.1 so y, q.2.2)) := by
  rw [f_X9_reads_L22_8]
  have g1 : ¬ (2 : Int32) ≤ nI so := nI_ge (b := 2) hs (by omega)
  have g2 : inb (nI so) 2 := inbN hs (by omega)
  have fin : (if inb (nI so) 2 then glt (fun (s0_15 : MoT) => f_X9_reads_L22_8 p2 K g (nI so + (1 : Int32)) s0_15) fun K14 => f_X9_reads_L52_18 (nI so) K14 10000 (0 : Int32) (Mo_w_readMany (ps t sp tk a nu f w q) (upd (Mo_readMany (ps t sp tk a nu f w q)) (ix (nI so)) y)) else none) = f_X9_reads_L22_8 p2 K g (nI (so + 1)) (ps t sp tk a nu f w (cw (Mo_words t) so 8 q.1, upd q.2.1 so y, q.2.2)) := by
    refine (if_pos g2).trans (eg ?_)
    rw [ps_readMany, ps_w_readMany, ixN (by omega), r_cw _ t hs, nI_1]
    rfl
  refine (if_neg g1).trans (eg ?_)
  by_cases e : p2 = 0
  · rw [if_pos e] at hy
    subst hy
    exact (if_pos e).trans fin
  · rw [if_neg e] at hy
    have gt : f_X9_get (ps t sp tk a nu f w q) (0 : Int32) ((3 : Int32) + nI so) = some y := by
      rw [hy, show (3 : Int32) + nI so = nI (3 + so) from nI_add 3 so]
      exact get0 _ (by omega)
    exact (if_neg e).trans (eb gt fin)
def bs (s : MoT) (n : Int32) : MoT := Mo_w_size (Mo_w_taped s (0 : Int32)) n
theorem bs_ps (s : MoT) (n : Int32) : Mo_w_fault (Mo_w_spot (Mo_w_size (Mo_w_taped s (0 : Int32)) n) (0 : Int32)) (0 : Int32) = ps (bs s n) (nI 0) (Mo_token (bs s n)) (Mo_at (bs s n)) (Mo_number (bs s n)) 0 (Mo_word (bs s n)) (qo (bs s n)) := by
  have e := ps_self (bs s n)
  show Mo_w_fault (Mo_w_spot (bs s n) (0 : Int32)) (0 : Int32) = _
  refine (congrArg (fun z => Mo_w_fault (Mo_w_spot z (0 : Int32)) (0 : Int32)) e.symm).trans ?_
  show Mo_w_fault (Mo_w_spot (ps (bs s n) (Mo_spot (bs s n)) (Mo_token (bs s n)) (Mo_at (bs s n)) (Mo_number (bs s n)) (Mo_fault (bs s n)) (Mo_word (bs s n)) (qo (bs s n))) (0 : Int32)) (0 : Int32) = _
  rw [ps_w_spot, ps_w_fault]
  rfl
theorem bs_size (s : MoT) (n : Int32) : Mo_size (bs s n) = n := rfl
theorem bs_tape (s : MoT) (n : Int32) : Mo_tape (bs s n) = Mo_tape s := rfl
theorem bs_words (s : MoT) (n : Int32) : Mo_words (bs s n) = Mo_words s := rfl
theorem bs_x (s : MoT) (n : Int32) : Mo_x (bs s n) = Mo_x s := rfl
/-- a text read: what is due of both -/
theorem reads2 {n kc0 vc0 : Nat} {im : Bool} {s : MoT} {rd : RdT} (hT : TB (Rd_tape rd) s) (hn : n ≤ 900) (hd : Rd_hasDesk rd = b2i im) (k8 : kc0 ≤ 8) (v8 : vc0 ≤ 8) (hk : Wd_count (Rd_keys rd) = nI kc0) (hv : Wd_count (Rd_values rd) = nI vc0) (hkw : ∀ k, k < kc0 → WR (Wd_packs (Rd_keys rd) k) (Mo_words s k)) (hvw : ∀ k, k < vc0 → WR (Wd_packs (Rd_values rd) k) (Mo_words s (8 + k))) (h0 : im = false → kc0 = 0 ∧ vc0 = 0) (h1 : im = true → Mo_x s 3 = nI kc0 ∧ Mo_x s 4 = nI vc0) :
    Ok2 (f_X3_readLines rd (nI n)) (f_X9_reads s (nI n) (b2i im)) (fun r r' => (r.1 = 1 ∧ r'.1 = 1 ∧ Pa kc0 vc0 (Mo_words s) im (bs s (nI n)) r r'.2) ∨ (r.1 = 0 ∧ r'.1 = 0 ∧ ∃ s', De (bs s (nI n)) r.2 s' ∧ r'.2 = Mo_w_wrongAt (Mo_w_trouble s' (4 : Int32)) (Mo_at s'))) := by
  unfold f_X9_reads
  rw [bs_ps, glE, li_0]
  have y0 : nI kc0 = if b2i im = nI 0 then nI 0 else Mo_x (bs s (nI n)) (3 + 0) := by
    cases im
    · rw [(h0 rfl).1]; rfl
    · exact (h1 rfl).1.symm
  have y1 : nI vc0 = if b2i im = nI 0 then nI 0 else Mo_x (bs s (nI n)) (3 + 1) := by
    cases im
    · rw [(h0 rfl).2]; rfl
    · exact (h1 rfl).2.symm
  have e1 := fun K => r_rs (b2i im) K (bs s (nI n)) (so := 0) (by omega) (nI 0) (Mo_token (bs s (nI n))) (Mo_at (bs s (nI n))) (Mo_number (bs s (nI n))) 0 (Mo_word (bs s (nI n))) (qo (bs s (nI n))) (nI kc0) y0 9999
  have e2 := fun K => r_rs (b2i im) K (bs s (nI n)) (so := 1) (by omega) (nI 0) (Mo_token (bs s (nI n))) (Mo_at (bs s (nI n))) (Mo_number (bs s (nI n))) 0 (Mo_word (bs s (nI n))) (cw (Mo_words (bs s (nI n))) 0 8 (qo (bs s (nI n))).1, upd (qo (bs s (nI n))).2.1 0 (nI kc0), (qo (bs s (nI n))).2.2) (nI vc0) y1 9998
  have e3 : ∀ K X, f_X9_reads_L22_8 (b2i im) K (9997 + 1) (nI (1 + 1)) X = K X := fun K X => by
    rw [f_X9_reads_L22_8]
    exact if_pos (Int32.le_refl _)
  have A := all2 (n := n) (kc0 := kc0) (vc0 := vc0) (wd0 := Mo_words s) (im := im) (t := bs s (nI n)) (rd := rd) (q := (cw (Mo_words (bs s (nI n))) 1 8 (cw (Mo_words (bs s (nI n))) 0 8 (qo (bs s (nI n))).1), upd (upd (qo (bs s (nI n))).2.1 0 (nI kc0)) 1 (nI vc0), (qo (bs s (nI n))).2.2)) (Mo_token (bs s (nI n))) (Mo_at (bs s (nI n))) (Mo_number (bs s (nI n))) (Mo_word (bs s (nI n))) hT hn rfl
    ⟨k8, hk, by show upd (upd (qo (bs s (nI n))).2.1 0 (nI kc0)) 1 (nI vc0) 0 = nI kc0; rw [un (by omega), us], fun k hk' => by
      show WR _ (cw (Mo_words s) 1 8 (cw (Mo_words s) 0 8 _) (8 * 0 + k))
      unfold cw
      rw [if_neg (by omega), if_pos (by omega), show 8 * 0 + k = k by omega]
      exact hkw k hk'⟩
    ⟨v8, hv, by show upd (upd (qo (bs s (nI n))).2.1 0 (nI kc0)) 1 (nI vc0) 1 = nI vc0; exact us, fun k hk' => by
      show WR _ (cw (Mo_words s) 1 8 (cw (Mo_words s) 0 8 _) (8 * 1 + k))
      unfold cw
      rw [if_pos (by omega)]
      exact hvw k hk'⟩
    (fun k hk' => by
      show cw (Mo_words s) 1 8 (cw (Mo_words s) 0 8 _) k = _
      unfold cw
      rw [if_neg (by omega), if_pos (by omega)])
    (fun k hk' => by
      show cw (Mo_words s) 1 8 (cw (Mo_words s) 0 8 _) (8 + k) = _
      unfold cw
      rw [if_pos (by omega)]) hd
  obtain ⟨r, s', a1, a2, a3⟩ := A
  rcases id a3 with ⟨c1, p, u, q', c2, c3⟩ | ⟨c1, c2⟩
  · have nf : Mo_fault s' ≤ 0 := by rw [c2]; exact z00
    exact ⟨r, (1, s'), a1, (e1 _).trans ((e2 _).trans ((e3 _ _).trans (eb a2 (if_pos nf)))), Or.inl ⟨c1, rfl, a3⟩⟩
  · have nf : ¬ Mo_fault s' ≤ 0 := by
      obtain ⟨g1, g2, sp, nu, w, q'', g3⟩ := id c2
      rw [g3]
      exact (dd0 g2).1
    exact ⟨r, (0, _), a1, (e1 _).trans ((e2 _).trans ((e3 _ _).trans (eb a2 (if_neg nf)))), Or.inr ⟨c1, rfl, s', c2, rfl⟩⟩
