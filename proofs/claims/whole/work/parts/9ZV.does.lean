/-! the lines done on both sides -/
theorem lines2 {kc vc c T0 B : Nat} {wd : Nat → Int64} {x0 : Nat → Int32} (s : OuBT) (m : MoT) {z : ZT} {bk : BkT} {K5 : OuBT → Option (Int32 × OuBT)} {K11 : MoT → Option (Int32 × MoT)} (P : Option (Int32 × OuBT) → Option (Int32 × MoT) → Prop) (hc : c ≤ 40) (hn : Rd_count (OuB_reader s) = nI c)
    (e1 : Mo_lineKind m = yK_ z) (e2 : Mo_lineSide m = yS_ z) (e3 : Mo_lineKey m = yY_ z) (e4 : Mo_lineValue m = yV_ z) (e5 : Mo_lineMany m = yM_ z) (e6 : Mo_lineTime m = yT_ z) (e7 : Mo_lines m = nI c)
    (hl : ∀ j, j < c → LnR kc vc (Rd_lines (OuB_reader s)) z j) (hB : B + 9 * c ≤ 100000000) (hT : T0 + 24 * c + 24 < 2147483647) (hR : RBk 0 kc vc T0 B bk wd x0)
    (hK : ∀ bk' x' T', T0 ≤ T' → T' ≤ T0 + 24 * c → RBk 0 kc vc T' (B + 9 * c) bk' wd x' → FrO 0 x0 x' → P (K5 (OuB_w_books s bk')) (K11 (mo m x'))) :
    P (f_X8_doLines_B_L41_9 K5 10000 (0 : Int32) (OuB_w_books s bk)) (f_X9_doesAll_L60_17 K11 10000 (0 : Int32) (mo m x0)) := by
  rw [li_0]
  refine lpp (L := f_X8_doLines_B_L41_9 K5) (M := f_X9_doesAll_L60_17 K11) c (fun i s' t => ∃ bk' x' T', s' = OuB_w_books s bk' ∧ t = mo m x' ∧ T0 ≤ T' ∧ T' ≤ T0 + 24 * i ∧ RBk 0 kc vc T' (B + 9 * i) bk' wd x' ∧ FrO 0 x0 x') P ?_ ?_ 10000 10000 0 _ _ (Nat.zero_le _) (by omega) (by omega) ⟨bk, x0, T0, rfl, rfl, Nat.le_refl _, by omega, hR, FrO.rf 0 x0⟩
  · rintro n k s' t ⟨bk', x', T', rfl, rfl, a1, a2, a3, a4⟩
    have g1 : Rd_count (OuB_reader (OuB_w_books s bk')) ≤ nI c := by rw [show Rd_count (OuB_reader (OuB_w_books s bk')) = nI c from hn]; exact Int32.le_refl _
    have g2 : Mo_lines (mo m x') ≤ nI c := by rw [show Mo_lines (mo m x') = nI c from e7]; exact Int32.le_refl _
    rw [f_X8_doLines_B_L41_9, f_X9_doesAll_L60_17, if_pos g1, if_pos g2]
    exact hK bk' x' T' a1 a2 a3 a4
  · rintro n k i s' t hi ⟨bk', x', T', rfl, rfl, a1, a2, a3, a4⟩
    have j0 : nI i * (5 : Int32) = nI (i * 5) := pk_mul i 5
    have j1 : nI (i * 5) + (1 : Int32) = nI (i * 5 + 1) := nI_1 _
    have j2 : nI (i * 5) + (2 : Int32) = nI (i * 5 + 2) := nI_add _ _
    have j3 : nI (i * 5) + (3 : Int32) = nI (i * 5 + 3) := nI_add _ _
    have j4 : nI (i * 5) + (4 : Int32) = nI (i * 5 + 4) := nI_add _ _
    have g1 : ¬ Rd_count (OuB_reader (OuB_w_books s bk')) ≤ nI i := by rw [show Rd_count (OuB_reader (OuB_w_books s bk')) = nI c from hn]; exact nI_ge hi (by omega)
    have g2 : ¬ (40 : Int32) ≤ nI i := nI_ge (b := 40) (by omega) (by omega)
    have g3 : ¬ Mo_lines (mo m x') ≤ nI i := by rw [show Mo_lines (mo m x') = nI c from e7]; exact nI_ge hi (by omega)
    have b0 : inb (nI (i * 5)) 200 := inbN (by omega) (by omega)
    have b1 : inb (nI (i * 5 + 1)) 200 := inbN (by omega) (by omega)
    have b2 : inb (nI (i * 5 + 2)) 200 := inbN (by omega) (by omega)
    have b3 : inb (nI (i * 5 + 3)) 200 := inbN (by omega) (by omega)
    have b4 : inb (nI (i * 5 + 4)) 200 := inbN (by omega) (by omega)
    have b5 : inb (nI i) 40 := inbN (by omega) (by omega)
    have x0' : ix (nI (i * 5)) = i * 5 := ixN (by omega)
    have x1' : ix (nI (i * 5 + 1)) = i * 5 + 1 := ixN (by omega)
    have x2' : ix (nI (i * 5 + 2)) = i * 5 + 2 := ixN (by omega)
    have x3' : ix (nI (i * 5 + 3)) = i * 5 + 3 := ixN (by omega)
    have x4' : ix (nI (i * 5 + 4)) = i * 5 + 4 := ixN (by omega)
    have x5' : ix (nI i) = i := ixN (by omega)
    have fld : Mo_lineKind (mo m x') = yK_ z ∧ Mo_lineSide (mo m x') = yS_ z ∧ Mo_lineKey (mo m x') = yY_ z ∧ Mo_lineValue (mo m x') = yV_ z ∧ Mo_lineMany (mo m x') = yM_ z ∧ Mo_lineTime (mo m x') = yT_ z := ⟨e1, e2, e3, e4, e5, e6⟩
    obtain ⟨d1, d2, d3, d4, d5, d6⟩ := fld
    obtain ⟨tm, t1, t2, t3, t4⟩ := hl i hi
    have hR' := a3
    obtain ⟨⟨h, hBd⟩, _⟩ := hR'
    have eL : f_X8_doLines_B_L41_9 K5 (n + 1) (nI i) (OuB_w_books s bk') = (if (Rd_count (OuB_reader (OuB_w_books s bk'))) ≤ nI i then K5 (OuB_w_books s bk') else if (40 : Int32) ≤ nI i then K5 (OuB_w_books s bk') else if inb (nI (i * 5 + 3)) 200 then if (Rd_lines (OuB_reader s)) (i * 5 + 3) = 0 then if inb (nI (i * 5 + 4)) 200 then (f_X1_advance bk' ((Rd_lines (OuB_reader s)) (i * 5 + 4))).bind fun r23 => f_X8_doLines_B_L41_9 K5 n (nI (i + 1)) (OuB_w_books s (r23.2)) else none else if inb (nI (i * 5)) 200 then if inb (nI (i * 5 + 1)) 200 then if inb (nI (i * 5 + 2)) 200 then if inb (nI (i * 5 + 3)) 200 then if inb (nI (i * 5 + 4)) 200 then (f_X1_happen bk' ((Rd_lines (OuB_reader s)) (i * 5)) ((Rd_lines (OuB_reader s)) (i * 5 + 1)) ((Rd_lines (OuB_reader s)) (i * 5 + 2)) ((Rd_lines (OuB_reader s)) (i * 5 + 3)) ((Rd_lines (OuB_reader s)) (i * 5 + 4))).bind fun r20 => f_X8_doLines_B_L41_9 K5 n (nI (i + 1)) (OuB_w_books s (r20.2)) else none else none else none else none else none else none) := by
      rw [f_X8_doLines_B_L41_9, j0, j1, j2, j3, j4, x0', x1', x2', x3', x4', nI_1]
    have eR : f_X9_doesAll_L60_17 K11 (k + 1) (nI i) (mo m x') = (if (Mo_lines (mo m x')) ≤ nI i then K11 (mo m x') else if inb (nI i) 40 then if yK_ z i = (2 : Int32) then if inb (nI i) 40 then (f_X9_ticks (mo m x') (0 : Int32) (yT_ z i)).bind fun r30 => f_X9_doesAll_L60_17 K11 k (nI (i + 1)) (r30.2) else none else if inb (nI i) 40 then if inb (nI i) 40 then if inb (nI i) 40 then if inb (nI i) 40 then if inb (nI i) 40 then (f_X9_does (mo m x') (0 : Int32) (yS_ z i) (yY_ z i) (yV_ z i) (yM_ z i) (yT_ z i)).bind fun r27 => f_X9_doesAll_L60_17 K11 k (nI (i + 1)) (r27.2) else none else none else none else none else none else none) := by
      rw [f_X9_doesAll_L60_17, x5', d1, d2, d3, d4, d5, d6, nI_1]
    rcases t4 with ⟨u1, u2⟩ | ⟨u1, u2, u3, u4, u5, sd, k', v, v1, v2, v3, v4, v5, v6, v7, v8, v9⟩
    · obtain ⟨⟨a, bk2⟩, ⟨a', s1⟩, p1, p2, p3, x2, p4, p5, p6, p7, _⟩ := advance2 (b := 0) (t := tm) m (by omega) t1 (by omega) hBd a3
      have p4 : s1 = mo m x2 := p4
      subst p4
      rw [← t2] at p1
      rw [← t3] at p2
      exact ⟨_, _, ⟨bk2, x2, T', rfl, rfl, a1, by omega, p6.mono (by omega), FrO.tr a4 p7⟩, eL.trans ((if_neg g1).trans ((if_neg g2).trans ((if_pos b3).trans ((if_pos u1).trans ((if_pos b4).trans (eb p1 rfl)))))), eR.trans ((if_neg g3).trans ((if_pos b5).trans ((if_pos u2).trans ((if_pos b5).trans (eb p2 rfl)))))⟩
    · obtain ⟨⟨a, bk2⟩, ⟨a', s1⟩, p1, p2, p3, x2, T2, p4, p5, p6, p7, p8, _⟩ := happen2 m (show 0 < 3 by omega) v1 v2 v3 t1 u3 u4 (by omega) (by omega) hBd a3
      have p4 : s1 = mo m x2 := p4
      subst p4
      rw [← t2, ← v4, ← v6, ← v8] at p1
      rw [← u5, ← t3, ← v5, ← v7, ← v9] at p2
      exact ⟨_, _, ⟨bk2, x2, T2, rfl, rfl, by omega, by omega, p7.mono (by omega), FrO.tr a4 p8⟩, eL.trans ((if_neg g1).trans ((if_neg g2).trans ((if_pos b3).trans ((if_neg u1).trans ((if_pos b0).trans ((if_pos b1).trans ((if_pos b2).trans ((if_pos b3).trans ((if_pos b4).trans (eb p1 rfl)))))))))), eR.trans ((if_neg g3).trans ((if_pos b5).trans ((if_neg u2).trans ((if_pos b5).trans ((if_pos b5).trans ((if_pos b5).trans ((if_pos b5).trans ((if_pos b5).trans (eb p2 rfl)))))))))⟩
def w16 (R W : Nat → Int64) (n : Nat) : Nat → Int64 := fun i => if i < n then R i else W i
theorem r_w16 (K : MoT → Option (Int32 × MoT)) (s : MoT) : f_X9_doesAll_L2_34 K 10000 (0 : Int32) s = K (Mo_w_words s (w16 (Mo_readWords s) (Mo_words s) 16)) := by
  rw [li_0]
  have z : w16 (Mo_readWords s) (Mo_words s) 0 = Mo_words s := funext (fun i => if_neg (Nat.not_lt_zero _))
  have main := lpc (L := fun n i t => f_X9_doesAll_L2_34 K n i t) (K := K) 16 (fun i => Mo_w_words s (w16 (Mo_readWords s) (Mo_words s) i)) (fuel := 10000) ?_ ?_ (by omega)
  · simp only [z] at main
    exact main
  · intro n
    show f_X9_doesAll_L2_34 K (n + 1) (nI 16) _ = _
    rw [f_X9_doesAll_L2_34]
    exact if_pos (Int32.le_refl _)
  · intro n i hi
    have e : vp_updL (w16 (Mo_readWords s) (Mo_words s) i) i (Mo_readWords s i) = w16 (Mo_readWords s) (Mo_words s) (i + 1) := by
      funext j
      unfold w16
      by_cases c : j = i
      · subst c
        rw [uL, if_pos (by omega)]
      · rw [uLn c]
        by_cases c2 : j < i
        · rw [if_pos c2, if_pos (by omega)]
        · rw [if_neg c2, if_neg (by omega)]
    show f_X9_doesAll_L2_34 K (n + 1) (nI i) (Mo_w_words s (w16 (Mo_readWords s) (Mo_words s) i)) = f_X9_doesAll_L2_34 K n (nI (i + 1)) (Mo_w_words s (w16 (Mo_readWords s) (Mo_words s) (i + 1)))
    rw [f_X9_doesAll_L2_34, ixN (by omega), nI_1, ← e]
    exact (if_neg (nI_ge hi (by omega) : ¬ nI 16 ≤ nI i)).trans ((if_pos (inbN (by omega) (by omega))).trans (if_pos (inbN (by omega) (by omega))))
/-- the words of the books made other -/
theorem RBk.wds {kc0 vc0 kc vc T B : Nat} {bk : BkT} {wd0 W : Nat → Int64} {x : Nat → Int32} {ks vs : WdT} (h : RBk 0 kc0 vc0 T B bk wd0 x) (hk : kc0 ≤ kc) (hv : vc0 ≤ vc) (k8 : kc ≤ 8) (v8 : vc ≤ 8) (ck : Wd_count ks = nI kc) (cv : Wd_count vs = nI vc) (wk : ∀ k, k < kc → WR (Wd_packs ks k) (W k)) (wv : ∀ k, k < vc → WR (Wd_packs vs k) (W (8 + k))) :
    RBk 0 kc vc T B (Bk_w_values (Bk_w_keys bk ks) vs) W (upd (upd x (6571 * 0 + 3) (nI kc)) (6571 * 0 + 4) (nI vc)) := by
  have e : ∀ i, i ≠ 3 → i ≠ 4 → upd (upd x (6571 * 0 + 3) (nI kc)) (6571 * 0 + 4) (nI vc) i = x i := fun i e1 e2 => by rw [un (by omega), un (by omega)]
  obtain ⟨⟨g, a1, a2, a3, a4, a5, a6, a7⟩, h2, h3, h4, h5, h6, h7, h8, h9⟩ := h
  refine ⟨⟨g, fun i hi => by unfold xn; rw [e _ (by omega) (by omega)]; exact a1 i hi, a2, by rw [e _ (by omega) (by omega)]; exact a3, a4, fun i hi => by rw [e _ (by omega) (by omega)]; exact a5 i hi, RL_fr a6 (fun i hi => e _ (by omega) (by omega)), fun k l r p1 p2 p3 => by rw [e _ (by omega) (by omega)]; exact a7 k l r p1 p2 p3⟩, ⟨k8, v8, ck, by rw [un (by omega), us], cv, us, wk, wv⟩, h3.fr (fun i _ _ => e _ (by omega) (by omega)), ?_, ?_, ⟨fun s k v p1 p2 p3 p4 => by have := h6.1 s k v p1 p2 p3 p4; omega, fun k l r p1 p2 p3 p4 => by have := h6.2 k l r p1 p2 p3 (by rw [e _ (by omega) (by omega)] at p4; exact p4); omega⟩, h7.fr (e _ (by omega) (by omega)) (fun i _ _ => e _ (by omega) (by omega)), h8.fr (Nat.le_refl _) (fun i _ _ => e _ (by omega) (by omega)), h9⟩
  · intro k hk
    rw [e _ (by omega) (by omega), e _ (by omega) (by omega)]
    exact h4 k hk
  · obtain ⟨⟨kp, q1, q2, q3⟩, ⟨lt, w1, w2, w3⟩, ⟨ck, r1, r2, r3⟩, f4, f5, f6⟩ := h5
    exact ⟨⟨kp, q1, q2, by rw [e _ (by omega) (by omega)]; exact q3⟩, ⟨lt, w1, w2, by rw [e _ (by omega) (by omega)]; exact w3⟩, ⟨ck, r1, r2, by rw [e _ (by omega) (by omega)]; exact r3⟩, by rw [e _ (by omega) (by omega)]; exact f4, by rw [e _ (by omega) (by omega)]; exact f5, fun k hk => by rw [e _ (by omega) (by omega)]; exact f6 k hk⟩
theorem RBk.wd' {b kc vc T B : Nat} {bk : BkT} {wd W : Nat → Int64} {x : Nat → Int32} (h : RBk b kc vc T B bk wd x) (wk : ∀ k, k < kc → W k = wd k) (wv : ∀ k, k < vc → W (8 + k) = wd (8 + k)) : RBk b kc vc T B bk W x := by
  obtain ⟨h1, ⟨g1, g2, g3, g4, g5, g6, g7, g8⟩, h3⟩ := h
  exact ⟨h1, ⟨g1, g2, g3, g4, g5, g6, fun k hk => by rw [wk k hk]; exact g7 k hk, fun k hk => by rw [wv k hk]; exact g8 k hk⟩, h3⟩
theorem c_wcp (a b : WdT) : ∃ r, f_X7_copyFrom a b = some r ∧ Wd_count r = Wd_count b ∧ ∀ k, k < 8 → Wd_packs r k = Wd_packs b k := ⟨_, if_pos (by decide), rfl, fun k hk => cpI (Wd_packs b) (Wd_packs a) 8 (by omega) k hk⟩
/-- all lines of a text that is sound -/
theorem doAll2 {kc0 vc0 kc vc c T0 B : Nat} {wd0 : Nat → Int64} {im : Bool} {s : OuBT} {m : MoT} {q : QT} (hQ : RQc kc0 vc0 wd0 im (OuB_reader s) q kc vc c)
    (eW : Mo_readWords m = q.1) (eM : Mo_readMany m = q.2.1) (e1 : Mo_lineKind m = yK_ q.2.2) (e2 : Mo_lineSide m = yS_ q.2.2) (e3 : Mo_lineKey m = yY_ q.2.2) (e4 : Mo_lineValue m = yV_ q.2.2) (e5 : Mo_lineMany m = yM_ q.2.2) (e6 : Mo_lineTime m = yT_ q.2.2) (e7 : Mo_lines m = yN_ q.2.2)
    (hR : RBk 0 kc0 vc0 T0 B (OuB_books s) wd0 (Mo_x m)) (hB : B + 360 ≤ 100000000) (hT : T0 + 1000 < 2147483647) :
    ∃ v bk' W x' T', f_X8_doLines_B s = some (v, OuB_w_books s bk') ∧ f_X9_doesAll m = some (v, mo (Mo_w_words m W) x') ∧ T' ≤ T0 + 960 ∧ RBk 0 kc vc T' (B + 360) bk' W x' ∧ FrO 0 (Mo_x m) x' ∧ (∀ k, k < kc0 → W k = wd0 k) ∧ (∀ k, k < vc0 → W (8 + k) = wd0 (8 + k)) := by
  obtain ⟨q1, q2, ⟨k8, wc, wm, wp⟩, ⟨v8, vcn, vm, vp⟩, q5, q6, q7, q8, q9, q10, q11⟩ := hQ
  obtain ⟨ks, ks1, ks2, ks3⟩ := c_wcp (Bk_keys (OuB_books s)) (Rd_keys (OuB_reader s))
  obtain ⟨vs, vs1, vs2, vs3⟩ := c_wcp (Bk_values (OuB_books s)) (Rd_values (OuB_reader s))
  have hW : ∀ i, i < 16 → w16 (Mo_readWords m) (Mo_words m) 16 i = q.1 i := fun i hi => (if_pos hi).trans (congrFun eW i)
  have ew := r_w16
  generalize hWW : w16 (Mo_readWords m) (Mo_words m) 16 = W at hW
  have hR1 := hR.wds (W := W) (ks := ks) (vs := vs) q1 q2 k8 v8 (ks2.trans wc) (vs2.trans vcn) (fun k hk => by rw [ks3 k (by omega), hW k (by omega)]; have := wp k hk; rw [show 8 * 0 + k = k by omega] at this; exact this) (fun k hk => by rw [vs3 k (by omega), hW _ (by omega)]; exact vp k hk)
  have g3 := r_set (Mo_w_words m W) (Mo_x m) (b := 0) (i := 3) (nI kc) (by omega) (by omega)
  have g4 := r_set (Mo_w_words m W) (upd (Mo_x m) (6571 * 0 + 3) (nI kc)) (b := 0) (i := 4) (nI vc) (by omega) (by omega)
  have g11 := fun x => get0 (mo (Mo_w_words m W) x) (i := 11) (by omega)
  have hR0 := hR1
  obtain ⟨⟨h, hBd⟩, _⟩ := hR0
  have tot := hBd.2.2.2.2.2.1.2.1
  have t11 := hBd.2.2.2.2.2.1.2.2.1
  have key := lines2 (kc := kc) (vc := vc) (c := c) (T0 := T0) (B := B) (wd := W) (x0 := upd (upd (Mo_x m) (6571 * 0 + 3) (nI kc)) (6571 * 0 + 4) (nI vc)) s (Mo_w_words m W) (z := q.2.2) (bk := Bk_w_values (Bk_w_keys (OuB_books s) ks) vs)
    (K5 := fun (s0_6 : OuBT) => some (((Lg_total (Bd_ledger (Bk_board (OuB_books s0_6)))) - (Lg_total (Bd_ledger (Bk_board (OuB_books s))))), s0_6)) (K11 := fun (s0_12 : MoT) => (f_X9_get s0_12 (0 : Int32) (11 : Int32)).bind fun r13 => some ((r13 - nI T0), s0_12))
    (fun o o' => ∃ v bk' x' T', o = some (v, OuB_w_books s bk') ∧ o' = some (v, mo (Mo_w_words m W) x') ∧ T' ≤ T0 + 960 ∧ RBk 0 kc vc T' (B + 360) bk' W x' ∧ FrO 0 (upd (upd (Mo_x m) (6571 * 0 + 3) (nI kc)) (6571 * 0 + 4) (nI vc)) x') q7 q8 e1 e2 e3 e4 e5 e6 (e7.trans q9) q10 (by omega) (by omega) hR1
    (fun bk' x' T' a1 a2 a3 a4 => by
      have hR2 := a3
      obtain ⟨⟨h', hBd'⟩, _⟩ := hR2
      refine ⟨nI T' - nI T0, bk', x', T', ?_, ?_, by omega, a3.mono (by omega), a4⟩
      · have y1 : Lg_total (Bd_ledger (Bk_board (OuB_books (OuB_w_books s bk')))) = nI T' := hBd'.2.2.2.2.2.1.2.1
        have y2 : Lg_total (Bd_ledger (Bk_board (OuB_books s))) = nI T0 := tot
        show some (Lg_total (Bd_ledger (Bk_board (OuB_books (OuB_w_books s bk')))) - Lg_total (Bd_ledger (Bk_board (OuB_books s))), OuB_w_books s bk') = _
        rw [y1, y2]
      · have y1 : Mo_x (mo (Mo_w_words m W) x') 11 = nI T' := hBd'.2.2.2.2.2.1.2.2.1
        have y2 := g11 x'
        rw [y1] at y2
        exact eb y2 rfl)
  obtain ⟨v, bk', x', T', z1, z2, z3, z4, z5⟩ := key
  refine ⟨v, bk', W, x', T', ?_, ?_, z3, z4, ?_, fun k hk => by rw [hW k (by omega)]; exact q5 k hk, fun k hk => by rw [hW _ (by omega)]; exact q6 k hk⟩
  · unfold f_X8_doLines_B
    exact eb ks1 (eb vs1 (eg z1))
  · unfold f_X9_doesAll
    rw [glE, r_w16, hWW]
    have y1 : Mo_readMany (Mo_w_words m W) (ix (0 : Int32)) = nI kc := (congrFun eM 0).trans wm
    have y2 : Mo_readMany (mo (Mo_w_words m W) (upd (Mo_x m) (6571 * 0 + 3) (nI kc))) (ix (1 : Int32)) = nI vc := (congrFun eM 1).trans vm
    refine (if_pos (by decide)).trans ?_
    rw [y1]
    refine eb g3 ((if_pos (by decide)).trans ?_)
    rw [y2]
    refine eb g4 (eb (g11 _) (eg ?_))
    have y3 : Mo_x (mo (Mo_w_words m W) (upd (upd (Mo_x m) (6571 * 0 + 3) (nI kc)) (6571 * 0 + 4) (nI vc))) 11 = nI T0 := t11
    rw [y3]
    exact z2
  · exact FrO.tr (((FrO.rf 0 (Mo_x m)).u (by omega)).u (by omega)) z5
