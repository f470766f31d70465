/-! the line of an event, of a tick -/
theorem RQc.tm {kc0 vc0 kc vc c : Nat} {wd0 : Nat → Int64} {im : Bool} {rd : RdT} {q : QT} (h : RQc kc0 vc0 wd0 im rd q kc vc c) (tp : TpT) : RQc kc0 vc0 wd0 im (Rd_w_tape rd tp) q kc vc c := h
theorem RQc.nu {kc0 vc0 kc vc c : Nat} {wd0 : Nat → Int64} {im : Bool} {rd : RdT} {q : QT} (h : RQc kc0 vc0 wd0 im rd q kc vc c) (v : Int32) : RQc kc0 vc0 wd0 im (Rd_w_number rd v) q kc vc c := h
theorem RQc.k0 {kc0 vc0 kc vc c kc' : Nat} {wd0 : Nat → Int64} {im : Bool} {rd : RdT} {q q' : QT} {ws' : WdT} (h : RQc kc0 vc0 wd0 im rd q kc vc c) (hk : kc ≤ kc') (hw : RW1 0 kc' ws' q'.1 q'.2.1) (h1 : ∀ j, ¬ (8 * 0 + kc ≤ j ∧ j < 8 * 0 + 8) → q'.1 j = q.1 j) (h2 : ∀ j, j ≠ 0 → q'.2.1 j = q.2.1 j) (h3 : q'.2.2 = q.2.2) : RQc kc0 vc0 wd0 im (Rd_w_keys rd ws') q' kc' vc c := by
  obtain ⟨a1, a2, a3, ⟨b1, b2, b3, b4⟩, a5, a6, a7, a8, a9, a10, a11⟩ := h
  refine ⟨by omega, a2, hw, ⟨b1, b2, by rw [h2 1 (by omega)]; exact b3, fun k hk => by rw [h1 _ (by omega)]; exact b4 k hk⟩, fun k hk => by rw [h1 k (by omega)]; exact a5 k hk, fun k hk => by rw [h1 _ (by omega)]; exact a6 k hk, a7, a8, by rw [h3]; exact a9, fun j hj => ?_, by rw [h3]; exact a11⟩
  rw [h3]
  exact (a10 j hj).mono hk (Nat.le_refl _)
theorem RQc.k1 {kc0 vc0 kc vc c vc' : Nat} {wd0 : Nat → Int64} {im : Bool} {rd : RdT} {q q' : QT} {ws' : WdT} (h : RQc kc0 vc0 wd0 im rd q kc vc c) (hk : vc ≤ vc') (hw : RW1 1 vc' ws' q'.1 q'.2.1) (h1 : ∀ j, ¬ (8 * 1 + vc ≤ j ∧ j < 8 * 1 + 8) → q'.1 j = q.1 j) (h2 : ∀ j, j ≠ 1 → q'.2.1 j = q.2.1 j) (h3 : q'.2.2 = q.2.2) : RQc kc0 vc0 wd0 im (Rd_w_values rd ws') q' kc vc' c := by
  obtain ⟨a1, a2, ⟨b1, b2, b3, b4⟩, a4, a5, a6, a7, a8, a9, a10, a11⟩ := h
  refine ⟨a1, by omega, ⟨b1, b2, by rw [h2 0 (by omega)]; exact b3, fun k hk => by rw [h1 _ (by omega)]; exact b4 k hk⟩, hw, fun k hk => by rw [h1 k (by omega)]; exact a5 k hk, fun k hk => by rw [h1 _ (by omega)]; exact a6 k hk, a7, a8, by rw [h3]; exact a9, fun j hj => ?_, by rw [h3]; exact a11⟩
  rw [h3]
  exact (a10 j hj).mono (Nat.le_refl _) hk
theorem tail17 {n kc0 vc0 kc vc c p sd k v m kd : Nat} {wd0 : Nat → Int64} {im : Bool} {t : MoT} {u : UT} {q : QT} {rd : RdT} {sg : Int32} (h : At n t p u (Rd_tape rd)) (hQ : RQc kc0 vc0 wd0 im rd q kc vc c) (hc : c < 40) (hd : Rd_hasDesk rd = nI 1) (hf : Rd_fault rd = nI 0) (hl : Rd_place rd = m1) (hs : sd < 2) (hk : k < kc) (hv : v < vc) (hm1 : 1 ≤ m) (hm2 : m ≤ 9) (hkd : (kd = 0 ∧ sg = 1) ∨ (kd = 1 ∧ sg = -1)) :
    Ok2 ((f_X3_readWord rd (29793 : Int64)).bind fun r15 => if (r15.1) = 0 then some ((0 : Int32), (r15.2)) else (f_X3_readWhole (r15.2) (0 : Int32) (9999 : Int32)).bind fun r18 => if (r18.1) = 0 then some ((0 : Int32), (r18.2)) else (f_X3_addLine (r18.2) (nI sd) (nI k) (nI v) (sg * nI m) (Rd_number (r18.2))).bind fun r21 => some ((1 : Int32), r21))
      (eJ17 (nI kd) (nI sd) (nI k) (nI v) (nI m) (pu t p u q)) (Ln n kc0 vc0 wd0 im t p) := by
  unfold eJ17
  refine Ok2.b (word2 q h (i := 11) (by omega) (by decide +kernel)) ?_
  rintro ⟨r1, rd1⟩ s1 (⟨tp1, p1, u1, e1, e2, e3, e4, e5⟩ | ⟨e1, e2⟩)
  · obtain ⟨rfl, rfl⟩ := Prod.mk.inj e1
    subst e2
    refine Ok2.lf n10 ?_
    refine Ok2.b (whole2 q (rd := Rd_w_tape rd tp1) e3 (lo := 0) (hi := 9999) (by omega) (by omega)) ?_
    rintro ⟨r2, rd2⟩ ⟨v2, s2⟩ (⟨tm, t1, t2, t3, tp2, p2, u2, f1, f2, f3, f4, f5⟩ | ⟨f1, f2⟩)
    · obtain ⟨rfl, rfl⟩ := Prod.mk.inj f1
      have f2 : s2 = pu t p2 u2 q := f2
      have t3 : v2 = nI tm := t3
      subst f2
      subst t3
      refine Ok2.lf n10 ?_
      obtain ⟨a1, a2, a3, a4, a5, a6, a7, a8, a9, a10, a11⟩ := hQ
      have x1 := c_adL (Rd_w_number (Rd_w_tape (Rd_w_tape rd tp1) tp2) (nI tm)) (nI sd) (nI k) (nI v) (sg * nI m) (nI tm) hc a8
      have x2 := r_adZ t p2 u2 q (nI kd) (nI sd) (nI k) (nI v) (nI m) (nI tm) hc a9
      refine Ok2.bl x1 (Ok2.br x2 (Ok2.ret (Or.inl ⟨rfl, p2, u2, _, rfl, f3, ⟨kc, vc, c + 1, a1, a2, a3, a4, a5, a6, by omega, rfl, rfl, fun j hj => ?_, a11⟩, hd, hf, hl, by omega, fun g => by have := f5 g; omega⟩)))
      show LnR kc vc (adL (Rd_lines rd) c (nI sd) (nI k) (nI v) (sg * nI m) (nI tm)) (adZ q.2.2 c (nI kd) (nI sd) (nI k) (nI v) (if nI kd = (1 : Int32) then -nI m else nI m) (nI tm)) j
      by_cases e : j = c
      · subst e
        obtain ⟨y1, y2, y3, y4, y5⟩ := mny hm1 hm2
        obtain ⟨l1, l2, l3, l4, l5⟩ := adL_e (ln := Rd_lines rd) (c := j) (a1 := nI sd) (a2 := nI k) (a3 := nI v) (a4 := sg * nI m) (a5 := nI tm)
        unfold LnR
        rw [l1, l2, l3, l4, l5]
        refine ⟨tm, t2, rfl, us, Or.inr ?_⟩
        have eM : yM_ (adZ q.2.2 j (nI kd) (nI sd) (nI k) (nI v) (if nI kd = (1 : Int32) then -nI m else nI m) (nI tm)) j = (if nI kd = (1 : Int32) then -nI m else nI m) := us
        have eK : yK_ (adZ q.2.2 j (nI kd) (nI sd) (nI k) (nI v) (if nI kd = (1 : Int32) then -nI m else nI m) (nI tm)) j = nI kd := us
        rw [eM, eK]
        rcases hkd with ⟨g1, g2⟩ | ⟨g1, g2⟩
        · rw [g1, g2, y1, if_neg (by decide)]
          exact ⟨y3, by decide, y5.1, y5.2.1, rfl, sd, k, v, hs, hk, hv, rfl, us, rfl, us, rfl, us⟩
        · rw [g1, g2, y2, if_pos (by decide)]
          exact ⟨y4, by decide, y5.2.2.1, y5.2.2.2, rfl, sd, k, v, hs, hk, hv, rfl, us, rfl, us, rfl, us⟩
      · exact (a10 j (by omega)).old (by omega)
    · have f2 : De t rd2 s2 := f2
      have e := f2.on (G := fun s => (f_X9_addsLine s (nI kd) (nI sd) (nI k) (nI v) (nI m) v2).bind fun r24 => some (r24)) (fun _ _ _ _ _ _ hh => eb (dd_adds hh _ _ _ _ _ _) rfl)
      exact ⟨_, _, if_pos f1, e, Or.inr ⟨rfl, f2⟩⟩
  · have e := e2.on (G := fun s => (f_X9_readWhole s (0 : Int32) (9999 : Int32)).bind fun r22 => (f_X9_addsLine (r22.2) (nI kd) (nI sd) (nI k) (nI v) (nI m) (r22.1)).bind fun r24 => some (r24)) (fun _ _ _ _ _ _ hh => eb (dd_whole hh _ _) (eb (dd_adds hh _ _ _ _ _ _) rfl))
    exact ⟨_, _, if_pos e1, e, Or.inr ⟨rfl, e2⟩⟩
theorem pside2 {n p : Nat} {t : MoT} {u : UT} (q : QT) {rd : RdT} (h : At n t p u (Rd_tape rd)) (kd : Int32) :
    (∃ sd tp' p' u', sd < 2 ∧ f_X3_readSide rd = some (1, Rd_w_number (Rd_w_tape rd tp') (nI sd)) ∧ evB kd (pu t p u q) = ((f_X9_readName (pu t p' u' q) (0 : Int32)).bind fun r11 => eB2 kd (nI sd) r11) ∧ At n t p' u' tp' ∧ p ≤ p') ∨ (∃ rd' s, f_X3_readSide rd = some (0, rd') ∧ evB kd (pu t p u q) = some s ∧ De t rd' s) := by
  have h8 := h.2.2.2.2.2.2.2
  unfold f_X3_readSide evB
  rcases say2 (Rd_tape rd) (pu t p u q) (i := 2) (by omega) (v := 1952867692) (by decide +kernel) h8 with ⟨a1, b1, _⟩ | ⟨a1, b1⟩
  · obtain ⟨tp', p', u', x1, x2, x3, x4, x5⟩ := nx q h
    exact Or.inl ⟨0, tp', p', u', by omega, eb a1 ((if_neg n10).trans (eb x1 rfl)), eb b1 (eg ((if_neg n10).trans (eg ((if_neg (by decide)).trans (eb x2 rfl))))), x3, x4⟩
  · rcases say2 (Rd_tape rd) (pu t p u q) (i := 3) (by omega) (v := 499967814002) (by decide +kernel) h8 with ⟨a2, b2, _⟩ | ⟨a2, b2⟩
    · obtain ⟨tp', p', u', x1, x2, x3, x4, x5⟩ := nx q h
      exact Or.inl ⟨1, tp', p', u', by omega, eb a1 ((if_pos rfl).trans (eb a2 ((if_neg n10).trans (eb x1 rfl)))), eb b1 (eg ((if_pos rfl).trans (eb b2 ((if_neg n10).trans (eg ((if_neg (by decide)).trans (eb x2 rfl))))))), x3, x4⟩
    · obtain ⟨s, f1, f2⟩ := flaw2 (q := q) h (c := 1) (by omega) (by omega)
      have e := f2.on (G := fun s => eB1 kd (-1 : Int32) s) (fun _ _ _ _ _ _ hh => dd_B1 hh _ _)
      exact Or.inr ⟨_, s, eb a1 ((if_pos rfl).trans (eb a2 ((if_pos rfl).trans (c_fail rd 1)))), eb b1 (eg ((if_pos rfl).trans (eb b2 ((if_pos rfl).trans (eg ((if_pos rfl).trans (eb f1 e))))))), f2⟩
theorem event2 {n kc0 vc0 kc vc c p kd : Nat} {wd0 : Nat → Int64} {im : Bool} {t : MoT} {u : UT} {q : QT} {rd : RdT} {sg : Int32} (h : At n t p u (Rd_tape rd)) (hQ : RQc kc0 vc0 wd0 im rd q kc vc c) (hc : c < 40) (hd : Rd_hasDesk rd = nI 1) (hf : Rd_fault rd = nI 0) (hl : Rd_place rd = m1) (hkd : (kd = 0 ∧ sg = 1) ∨ (kd = 1 ∧ sg = -1)) :
    Ok2 (f_X3_readEvent rd sg) (evB (nI kd) (pu t p u q)) (Ln n kc0 vc0 wd0 im t p) := by
  unfold f_X3_readEvent
  rcases pside2 q h (nI kd) with ⟨sd, tp1, p1, u1, s1, s2, s3, s4, s5⟩ | ⟨rd', s, s1, s2, s3⟩
  · rw [s3]
    refine Ok2.bl s2 (Ok2.lf n10 ?_)
    refine Ok2.b (name2_0 q (rd := Rd_w_number (Rd_w_tape rd tp1) (nI sd)) s4 hQ.2.2.1) ?_
    rintro ⟨r2, rd2⟩ ⟨v2, t2⟩ (⟨k, kc', ws', q', g1, g2, g3, g4, g5, g6, g7, tp2, p2, u2, e1, e2, e3, e4, e5⟩ | ⟨e1, e2⟩)
    · obtain ⟨rfl, rfl⟩ := Prod.mk.inj e1
      have e2 : t2 = pu t p2 u2 q' := e2
      have g7 : v2 = nI k := g7
      subst e2
      subst g7
      have hQ2 : RQc kc0 vc0 wd0 im (Rd_w_number (Rd_w_keys (Rd_w_tape (Rd_w_number (Rd_w_tape rd tp1) (nI sd)) tp2) ws') (nI k)) q' kc' vc c := hQ.k0 g2 g3 g4 g5 g6
      refine Ok2.lf n10 ?_
      unfold eB2
      refine Ok2.b (name2_1 q' (rd := Rd_w_number (Rd_w_keys (Rd_w_tape (Rd_w_number (Rd_w_tape rd tp1) (nI sd)) tp2) ws') (nI k)) e3 hQ2.2.2.2.1) ?_
      rintro ⟨r3, rd3⟩ ⟨v3, t3⟩ (⟨v, vc', vs', q2, i1, i2, i3, i4, i5, i6, i7, tp3, p3, u3, f1, f2, f3, f4, f5⟩ | ⟨f1, f2⟩)
      · obtain ⟨rfl, rfl⟩ := Prod.mk.inj f1
        have f2 : t3 = pu t p3 u3 q2 := f2
        have i7 : v3 = nI v := i7
        subst f2
        subst i7
        have hQ3 : RQc kc0 vc0 wd0 im (Rd_w_number (Rd_w_values (Rd_w_tape (Rd_w_number (Rd_w_keys (Rd_w_tape (Rd_w_number (Rd_w_tape rd tp1) (nI sd)) tp2) ws') (nI k)) tp3) vs') (nI v)) q2 kc' vc' c := hQ2.k1 i2 i3 i4 i5 i6
        refine Ok2.lf n10 ?_
        unfold eB3
        rcases say2 tp3 (pu t p3 u3 q2) (i := 10) (by omega) (v := 31074) (by decide +kernel) f3.2.2.2.2.2.2.2 with ⟨a1, b1, _⟩ | ⟨a1, b1⟩
        · obtain ⟨tp4, p4, u4, x1, x2, x3, x4, x5⟩ := nx q2 f3
          refine Ok2.bl a1 (Ok2.br b1 ?_)
          rw [glE, glE]
          refine Ok2.lf n10 (Ok2.rf n10 (Ok2.bl x1 (Ok2.br x2 ?_)))
          refine Ok2.b (whole2 q2 (rd := Rd_w_tape (Rd_w_number (Rd_w_values (Rd_w_tape (Rd_w_number (Rd_w_keys (Rd_w_tape (Rd_w_number (Rd_w_tape rd tp1) (nI sd)) tp2) ws') (nI k)) tp3) vs') (nI v)) tp4) x3 (lo := 1) (hi := 9) (by omega) (by omega)) ?_
          rintro ⟨r5, rd5⟩ ⟨v5, t5⟩ (⟨m, j1, j2, j3, tp5, p5, u5, k1, k2, k3, k4, k5⟩ | ⟨k1, k2⟩)
          · obtain ⟨rfl, rfl⟩ := Prod.mk.inj k1
            have k2 : t5 = pu t p5 u5 q2 := k2
            have j3 : v5 = nI m := j3
            subst k2
            subst j3
            refine Ok2.lf n10 ?_
            refine Ok2.mono (tail17 (rd := Rd_w_number (Rd_w_tape (Rd_w_tape (Rd_w_number (Rd_w_values (Rd_w_tape (Rd_w_number (Rd_w_keys (Rd_w_tape (Rd_w_number (Rd_w_tape rd tp1) (nI sd)) tp2) ws') (nI k)) tp3) vs') (nI v)) tp4) tp5) (nI m)) k3 hQ3 hc hd hf hl s1 g1 i1 j1 j2 hkd) (fun a b hh => hh.from (by omega))
          · have k2 : De t rd5 t5 := k2
            have e := k2.on (G := fun s => eJ17 (nI kd) (nI sd) (nI k) (nI v) v5 s) (fun _ _ _ _ _ _ hh => dd_17 hh _ _ _ _ _)
            exact ⟨_, _, if_pos k1, e, Or.inr ⟨rfl, k2⟩⟩
        · refine Ok2.bl a1 (Ok2.br b1 ?_)
          rw [glE, glE]
          refine Ok2.lt rfl (Ok2.rt rfl ?_)
          exact Ok2.mono (tail17 (m := 1) (rd := Rd_w_number (Rd_w_values (Rd_w_tape (Rd_w_number (Rd_w_keys (Rd_w_tape (Rd_w_number (Rd_w_tape rd tp1) (nI sd)) tp2) ws') (nI k)) tp3) vs') (nI v)) f3 hQ3 hc hd hf hl s1 g1 i1 (by omega) (by omega) hkd) (fun a b hh => hh.from (by omega))
      · have f2 : De t rd3 t3 := f2
        have e := f2.on (G := fun s => eB3 (nI kd) (nI sd) (nI k) (v3, s)) (fun _ _ _ _ _ _ hh => dd_B3 hh _ _ _ _)
        exact ⟨_, _, if_pos f1, e, Or.inr ⟨rfl, f2⟩⟩
    · have e2 : De t rd2 t2 := e2
      have e := e2.on (G := fun s => eB2 (nI kd) (nI sd) (v2, s)) (fun _ _ _ _ _ _ hh => dd_B2 hh _ _ _)
      exact ⟨_, _, if_pos e1, e, Or.inr ⟨rfl, e2⟩⟩
  · exact ⟨_, _, eb s1 (if_pos rfl), s2, Or.inr ⟨rfl, s3⟩⟩
def tkB (r1 : MoT) : Option MoT := (f_X9_readWhole r1 (0 : Int32) (9999 : Int32)).bind fun r3 => (f_X9_addsLine (r3.2) (2 : Int32) (0 : Int32) (0 : Int32) (0 : Int32) (0 : Int32) (r3.1)).bind fun r5 => some (r5)
theorem tk_eq (s : MoT) : f_X9_readTick s = (f_X9_begins_ s).bind fun r1 => tkB r1 := rfl
theorem dd_tk {t : MoT} {sp a nu f : Int32} {w : Int64} {q : QT} (h : 1 ≤ f.toInt) : tkB (ps t sp 0 a nu f w q) = some (ps t sp 0 a nu f w q) := eb (dd_whole h _ _) (eb (dd_adds h _ _ _ _ _ _) rfl)
theorem tick2 {n kc0 vc0 kc vc c p : Nat} {wd0 : Nat → Int64} {im : Bool} {t : MoT} {u : UT} {q : QT} {rd : RdT} (h : At n t p u (Rd_tape rd)) (hQ : RQc kc0 vc0 wd0 im rd q kc vc c) (hc : c < 40) (hd : Rd_hasDesk rd = nI 1) (hf : Rd_fault rd = nI 0) (hl : Rd_place rd = m1) :
    Ok2 (f_X3_readTick rd) (tkB (pu t p u q)) (Ln n kc0 vc0 wd0 im t p) := by
  unfold f_X3_readTick tkB
  refine Ok2.b (whole2 q h (lo := 0) (hi := 9999) (by omega) (by omega)) ?_
  rintro ⟨r2, rd2⟩ ⟨v2, s2⟩ (⟨tm, t1, t2, t3, tp2, p2, u2, f1, f2, f3, f4, f5⟩ | ⟨f1, f2⟩)
  · obtain ⟨rfl, rfl⟩ := Prod.mk.inj f1
    have f2 : s2 = pu t p2 u2 q := f2
    have t3 : v2 = nI tm := t3
    subst f2
    subst t3
    refine Ok2.lf n10 ?_
    obtain ⟨a1, a2, a3, a4, a5, a6, a7, a8, a9, a10, a11⟩ := hQ
    have x1 := c_adL (Rd_w_number (Rd_w_tape rd tp2) (nI tm)) (nI 0) (nI 0) (nI 0) (nI 0) (nI tm) hc a8
    have x2 := r_adZ t p2 u2 q (nI 2) (nI 0) (nI 0) (nI 0) (nI 0) (nI tm) hc a9
    refine Ok2.bl x1 (Ok2.br x2 (Ok2.ret (Or.inl ⟨rfl, p2, u2, _, rfl, f3, ⟨kc, vc, c + 1, a1, a2, a3, a4, a5, a6, by omega, rfl, rfl, fun j hj => ?_, a11⟩, hd, hf, hl, by omega, fun g => by have := f5 g; omega⟩)))
    show LnR kc vc (adL (Rd_lines rd) c (nI 0) (nI 0) (nI 0) (nI 0) (nI tm)) (adZ q.2.2 c (nI 2) (nI 0) (nI 0) (nI 0) (if nI 2 = (1 : Int32) then -nI 0 else nI 0) (nI tm)) j
    by_cases e : j = c
    · subst e
      obtain ⟨l1, l2, l3, l4, l5⟩ := adL_e (ln := Rd_lines rd) (c := j) (a1 := nI 0) (a2 := nI 0) (a3 := nI 0) (a4 := nI 0) (a5 := nI tm)
      unfold LnR
      rw [l1, l2, l3, l4, l5]
      exact ⟨tm, t2, rfl, us, Or.inl ⟨rfl, us⟩⟩
    · exact (a10 j (by omega)).old (by omega)
  · have f2 : De t rd2 s2 := f2
    have e := f2.on (G := fun s => (f_X9_addsLine s (2 : Int32) (0 : Int32) (0 : Int32) (0 : Int32) (0 : Int32) v2).bind fun r24 => some (r24)) (fun _ _ _ _ _ _ hh => eb (dd_adds hh _ _ _ _ _ _) rfl)
    exact ⟨_, _, if_pos f1, e, Or.inr ⟨rfl, f2⟩⟩
