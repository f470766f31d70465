/-! the desk's line, any line -/
def dL_ (r19 : Int32 × MoT) : Option MoT := if (Mo_hasDesk (r19.2)) = 0 then if (Mo_fault (r19.2)) = 0 then some ((Mo_w_hasDesk (Mo_w_readLate (r19.2) (r19.1)) (1 : Int32))) else some ((Mo_w_hasDesk (Mo_w_readLate (r19.2) (r19.1)) (0 : Int32))) else some ((Mo_w_hasDesk (Mo_w_readLate (r19.2) (r19.1)) (1 : Int32)))
def dK_ (r15 : Int32 × MoT) : Option MoT := (f_X9_needs (Mo_w_readKeep (r15.2) (r15.1)) 6).bind fun r17 => (f_X9_readWhole r17 (0 : Int32) (999 : Int32)).bind fun r19 => dL_ r19
def dJ9 (s : MoT) : Option MoT := (f_X9_next s).bind fun r11 => (f_X9_needs r11 5).bind fun r13 => (f_X9_readWhole r13 (1 : Int32) (999 : Int32)).bind fun r15 => dK_ r15
def dJ7 (r3 : MoT) (y8 : Int32) : Option MoT := glt (fun (s0_10 : MoT) => dJ9 s0_10) fun J9 => if y8 = (-1 : Int32) then (f_X9_flaw (Mo_w_readHow r3 y8) (1 : Int32)).bind fun r24 => J9 r24 else J9 (Mo_w_readHow r3 y8)
def dJ3 (r3 : MoT) : Option MoT := (f_X9_isWord r3 1).bind fun r5 => glt (fun (y8 : Int32) => dJ7 r3 y8) fun J7 => if r5 = 0 then (f_X9_isWord r3 2).bind fun r27 => if r27 = 0 then (f_X9_isWord r3 3).bind fun r30 => if r30 = 0 then (f_X9_isWord r3 4).bind fun r33 => if r33 = 0 then J7 (-1 : Int32) else J7 (3 : Int32) else J7 (2 : Int32) else J7 (1 : Int32) else J7 (0 : Int32)
theorem dk_eq (s : MoT) : f_X9_readDesk s = glt (fun (s0_2 : MoT) => (f_X9_next s0_2).bind fun r3 => dJ3 r3) fun J1 => if (Mo_hasDesk s) = 0 then J1 s else (f_X9_flaw s (3 : Int32)).bind fun r37 => J1 r37 := rfl
theorem dd_dL {t : MoT} {sp a nu f : Int32} {w : Int64} {q : QT} (h : 1 ≤ f.toInt) (x : Int32) : ∃ q', dL_ (x, ps t sp 0 a nu f w q) = some (ps t sp 0 a nu f w q') := by
  unfold dL_
  by_cases e : Mo_hasDesk (ps t sp 0 a nu f w q) = 0
  · exact ⟨q_w_hasDesk (q_w_readLate q x) 0, (if_pos e).trans (if_neg (dd0 h).2)⟩
  · exact ⟨q_w_hasDesk (q_w_readLate q x) 1, if_neg e⟩
theorem dd_dK {t : MoT} {sp a nu f : Int32} {w : Int64} {q : QT} (h : 1 ≤ f.toInt) (x : Int32) : ∃ q', dK_ (x, ps t sp 0 a nu f w q) = some (ps t sp 0 a nu f w q') := by
  obtain ⟨q', e⟩ := dd_dL (t := t) (sp := sp) (a := a) (nu := nu) (w := w) (q := q_w_readKeep q x) h nu
  exact ⟨q', eb (dd_needs (q := q_w_readKeep q x) h (by omega)) (eb (dd_whole h _ _) e)⟩
theorem dd_J9 {t : MoT} {sp a nu f : Int32} {w : Int64} {q : QT} (h : 1 ≤ f.toInt) : ∃ q', dJ9 (ps t sp 0 a nu f w q) = some (ps t sp 0 a nu f w q') := by
  obtain ⟨q', e⟩ := dd_dK (t := t) (sp := sp) (a := a) (nu := nu) (w := w) (q := q) h nu
  exact ⟨q', eb (dd_next h) (eb (dd_needs h (by omega)) (eb (dd_whole h _ _) e))⟩
theorem dd_J3 {t : MoT} {sp a nu f : Int32} {w : Int64} {q : QT} (h : 1 ≤ f.toInt) : ∃ q', dJ3 (ps t sp 0 a nu f w q) = some (ps t sp 0 a nu f w q') := by
  obtain ⟨q', e⟩ := dd_J9 (t := t) (sp := sp) (a := a) (nu := nu) (w := w) (q := q_w_readHow q (-1)) h
  exact ⟨q', eb (dd_isWord (by omega)) (eg ((if_pos rfl).trans (eb (dd_isWord (by omega)) ((if_pos rfl).trans (eb (dd_isWord (by omega)) ((if_pos rfl).trans (eb (dd_isWord (by omega)) ((if_pos rfl).trans (eg ((if_pos rfl).trans (eb (dd_flaw (q := q_w_readHow q (-1)) h _) e)))))))))))⟩
/-- behind a flaw the rest of the reference changes nothing that counts -/
theorem De.onq {t : MoT} {rd : RdT} {s : MoT} (h : De t rd s) {G : MoT → Option MoT} (hG : ∀ sp a nu f w q, 1 ≤ f.toInt → ∃ q', G (ps t sp 0 a nu f w q) = some (ps t sp 0 a nu f w q')) : ∃ s', G s = some s' ∧ De t rd s' := by
  obtain ⟨g1, g2, sp, nu, w, q, g3⟩ := h
  obtain ⟨q', e⟩ := hG sp (Rd_place rd) nu (Rd_fault rd) w q g2
  exact ⟨_, by rw [g3]; exact e, g1, g2, sp, nu, w, q', rfl⟩
theorem phow2 {n p : Nat} {t : MoT} {u : UT} (q : QT) {rd : RdT} (h : At n t p u (Rd_tape rd)) :
    (∃ hw tp' p' u', hw < 4 ∧ f_X3_readHow rd = some (1, Rd_w_how (Rd_w_tape rd tp') (nI hw)) ∧ dJ3 (pu t p u q) = ((f_X9_needs (pu t p' u' (q_w_readHow q (nI hw))) 5).bind fun r13 => (f_X9_readWhole r13 (1 : Int32) (999 : Int32)).bind fun r15 => dK_ r15) ∧ At n t p' u' tp' ∧ p ≤ p') ∨ (∃ rd' s, f_X3_readHow rd = some (0, rd') ∧ dJ3 (pu t p u q) = some s ∧ De t rd' s) := by
  have h8 := h.2.2.2.2.2.2.2
  have go : ∀ hw, hw < 4 → ∃ tp' p' u', f_X6_next (Rd_tape rd) = some tp' ∧ dJ7 (pu t p u q) (nI hw) = ((f_X9_needs (pu t p' u' (q_w_readHow q (nI hw))) 5).bind fun r13 => (f_X9_readWhole r13 (1 : Int32) (999 : Int32)).bind fun r15 => dK_ r15) ∧ At n t p' u' tp' ∧ p ≤ p' := fun hw hlt => by
    obtain ⟨tp', p', u', x1, x2, x3, x4, x5⟩ := nx (q_w_readHow q (nI hw)) h
    have ne : ¬ nI hw = (-1 : Int32) := fun e => by have := (m1E (n := hw) (by omega)).mp e; exact this
    exact ⟨tp', p', u', x1, eg ((if_neg ne).trans (eb x2 rfl)), x3, x4⟩
  unfold f_X3_readHow dJ3
  rcases say2 (Rd_tape rd) (pu t p u q) (i := 1) (by omega) (v := 491328007785) (by decide +kernel) h8 with ⟨a1, b1, _⟩ | ⟨a1, b1⟩
  · obtain ⟨tp', p', u', x1, x2, x3, x4⟩ := go 0 (by omega)
    exact Or.inl ⟨0, tp', p', u', by omega, eb a1 ((if_neg n10).trans (eb x1 rfl)), eb b1 (eg ((if_neg n10).trans x2)), x3, x4⟩
  · rcases say2 (Rd_tape rd) (pu t p u q) (i := 2) (by omega) (v := 1952867692) (by decide +kernel) h8 with ⟨a2, b2, _⟩ | ⟨a2, b2⟩
    · obtain ⟨tp', p', u', x1, x2, x3, x4⟩ := go 1 (by omega)
      exact Or.inl ⟨1, tp', p', u', by omega, eb a1 ((if_pos rfl).trans (eb a2 ((if_neg n10).trans (eb x1 rfl)))), eb b1 (eg ((if_pos rfl).trans (eb b2 ((if_neg n10).trans x2)))), x3, x4⟩
    · rcases say2 (Rd_tape rd) (pu t p u q) (i := 3) (by omega) (v := 499967814002) (by decide +kernel) h8 with ⟨a3, b3, _⟩ | ⟨a3, b3⟩
      · obtain ⟨tp', p', u', x1, x2, x3, x4⟩ := go 2 (by omega)
        exact Or.inl ⟨2, tp', p', u', by omega, eb a1 ((if_pos rfl).trans (eb a2 ((if_pos rfl).trans (eb a3 ((if_neg n10).trans (eb x1 rfl)))))), eb b1 (eg ((if_pos rfl).trans (eb b2 ((if_pos rfl).trans (eb b3 ((if_neg n10).trans x2)))))), x3, x4⟩
      · rcases say2 (Rd_tape rd) (pu t p u q) (i := 4) (by omega) (v := 1819047270) (by decide +kernel) h8 with ⟨a4, b4, _⟩ | ⟨a4, b4⟩
        · obtain ⟨tp', p', u', x1, x2, x3, x4⟩ := go 3 (by omega)
          exact Or.inl ⟨3, tp', p', u', by omega, eb a1 ((if_pos rfl).trans (eb a2 ((if_pos rfl).trans (eb a3 ((if_pos rfl).trans (eb a4 ((if_neg n10).trans (eb x1 rfl)))))))), eb b1 (eg ((if_pos rfl).trans (eb b2 ((if_pos rfl).trans (eb b3 ((if_pos rfl).trans (eb b4 ((if_neg n10).trans x2)))))))), x3, x4⟩
        · obtain ⟨s, f1, f2⟩ := flaw2 (q := q_w_readHow q (-1)) h (c := 1) (by omega) (by omega)
          obtain ⟨s', e1, e2⟩ := f2.onq (G := dJ9) (fun _ _ _ _ _ _ hh => dd_J9 hh)
          exact Or.inr ⟨_, s', eb a1 ((if_pos rfl).trans (eb a2 ((if_pos rfl).trans (eb a3 ((if_pos rfl).trans (eb a4 ((if_pos rfl).trans (c_fail rd 1)))))))), eb b1 (eg ((if_pos rfl).trans (eb b2 ((if_pos rfl).trans (eb b3 ((if_pos rfl).trans (eb b4 ((if_pos rfl).trans (eg ((if_pos rfl).trans (eb f1 e1))))))))))), e2⟩
theorem deskl2 {n kc0 vc0 kc vc c p : Nat} {wd0 : Nat → Int64} {t : MoT} {u : UT} {q : QT} {rd : RdT} (h : At n t p u (Rd_tape rd)) (hQ : RQc kc0 vc0 wd0 false rd q kc vc c) (hd : Rd_hasDesk rd = nI 0) (hz : yD_ q.2.2 = nI 0) (hf : Rd_fault rd = nI 0) (hl : Rd_place rd = m1) :
    Ok2 (f_X3_readDeskLine rd) (f_X9_readDesk (pu t p u q)) (Ln n kc0 vc0 wd0 false t p) := by
  rw [dk_eq, glE]
  unfold f_X3_readDeskLine
  refine Ok2.rt (show Mo_hasDesk (pu t p u q) = 0 from hz) ?_
  obtain ⟨tp1, p1, u1, x1, x2, x3, x4, x5⟩ := nx q h
  refine Ok2.bl x1 (Ok2.br x2 ?_)
  rcases phow2 q (rd := Rd_w_tape rd tp1) x3 with ⟨hw, tp2, p2, u2, s1, s2, s3, s4, s5⟩ | ⟨rd', s, s1, s2, s3⟩
  · rw [s3]
    refine Ok2.bl s2 (Ok2.lf n10 ?_)
    refine Ok2.b (word2 (q_w_readHow q (nI hw)) (rd := Rd_w_how (Rd_w_tape (Rd_w_tape rd tp1) tp2) (nI hw)) s4 (i := 5) (by omega) (by decide +kernel)) ?_
    rintro ⟨r3, rd3⟩ t3 (⟨tp3, p3, u3, e1, e2, e3, e4, e5⟩ | ⟨e1, e2⟩)
    · obtain ⟨rfl, rfl⟩ := Prod.mk.inj e1
      subst e2
      refine Ok2.lf n10 ?_
      refine Ok2.b (whole2 (q_w_readHow q (nI hw)) (rd := Rd_w_tape (Rd_w_how (Rd_w_tape (Rd_w_tape rd tp1) tp2) (nI hw)) tp3) e3 (lo := 1) (hi := 999) (by omega) (by omega)) ?_
      rintro ⟨r4, rd4⟩ ⟨v4, t4⟩ (⟨kp, k1, k2, k3, tp4, p4, u4, f1, f2, f3, f4, f5⟩ | ⟨f1, f2⟩)
      · obtain ⟨rfl, rfl⟩ := Prod.mk.inj f1
        have f2 : t4 = pu t p4 u4 (q_w_readHow q (nI hw)) := f2
        have k3 : v4 = nI kp := k3
        subst f2
        subst k3
        refine Ok2.lf n10 ?_
        unfold dK_
        refine Ok2.b (word2 (q_w_readKeep (q_w_readHow q (nI hw)) (nI kp)) (rd := Rd_w_keep (Rd_w_number (Rd_w_tape (Rd_w_tape (Rd_w_how (Rd_w_tape (Rd_w_tape rd tp1) tp2) (nI hw)) tp3) tp4) (nI kp)) (nI kp)) f3 (i := 6) (by omega) (by decide +kernel)) ?_
        rintro ⟨r5, rd5⟩ t5 (⟨tp5, p5, u5, g1, g2, g3, g4, g5⟩ | ⟨g1, g2⟩)
        · obtain ⟨rfl, rfl⟩ := Prod.mk.inj g1
          subst g2
          refine Ok2.lf n10 ?_
          refine Ok2.b (whole2 (q_w_readKeep (q_w_readHow q (nI hw)) (nI kp)) (rd := Rd_w_tape (Rd_w_keep (Rd_w_number (Rd_w_tape (Rd_w_tape (Rd_w_how (Rd_w_tape (Rd_w_tape rd tp1) tp2) (nI hw)) tp3) tp4) (nI kp)) (nI kp)) tp5) g3 (lo := 0) (hi := 999) (by omega) (by omega)) ?_
          rintro ⟨r6, rd6⟩ ⟨v6, t6⟩ (⟨lt, l1, l2, l3, tp6, p6, u6, i1, i2, i3, i4, i5⟩ | ⟨i1, i2⟩)
          · obtain ⟨rfl, rfl⟩ := Prod.mk.inj i1
            have i2 : t6 = pu t p6 u6 (q_w_readKeep (q_w_readHow q (nI hw)) (nI kp)) := i2
            have l3 : v6 = nI lt := l3
            subst i2
            subst l3
            refine Ok2.lf n10 ?_
            have y1 : dL_ (nI lt, pu t p6 u6 (q_w_readKeep (q_w_readHow q (nI hw)) (nI kp))) = some (pu t p6 u6 (q_w_hasDesk (q_w_readLate (q_w_readKeep (q_w_readHow q (nI hw)) (nI kp)) (nI lt)) 1)) := (if_pos (show Mo_hasDesk (pu t p6 u6 (q_w_readKeep (q_w_readHow q (nI hw)) (nI kp))) = 0 from hz)).trans (if_pos rfl)
            obtain ⟨a1, a2, a3, a4, a5, a6, a7, a8, a9, a10, a11⟩ := hQ
            refine ⟨_, _, rfl, y1, Or.inl ⟨rfl, p6, u6, _, rfl, i3, ⟨kc, vc, c, a1, a2, a3, a4, a5, a6, a7, a8, a9, a10, Or.inr ⟨rfl, rfl, fun _ => ⟨hw, kp, lt, s1, k2, l2, rfl, rfl, rfl, rfl, rfl, rfl⟩⟩⟩, rfl, hf, hl, by omega, fun g => by have := i5 g; omega⟩⟩
          · have i2 : De t rd6 t6 := i2
            obtain ⟨s', d1, d2⟩ := i2.onq (G := fun s => dL_ (v6, s)) (fun _ _ _ _ _ _ hh => dd_dL hh _)
            exact ⟨_, _, if_pos i1, d1, Or.inr ⟨rfl, d2⟩⟩
        · obtain ⟨s', d1, d2⟩ := g2.onq (G := fun s => (f_X9_readWhole s (0 : Int32) (999 : Int32)).bind fun r19 => dL_ r19) (fun sp a nu f w q hh => by
            obtain ⟨q', e⟩ := dd_dL (t := t) (sp := sp) (a := a) (nu := nu) (w := w) (q := q) hh nu
            exact ⟨q', eb (dd_whole hh _ _) e⟩)
          exact ⟨_, _, if_pos g1, d1, Or.inr ⟨rfl, d2⟩⟩
      · have f2 : De t rd4 t4 := f2
        obtain ⟨s', d1, d2⟩ := f2.onq (G := fun s => dK_ (v4, s)) (fun _ _ _ _ _ _ hh => dd_dK hh _)
        exact ⟨_, _, if_pos f1, d1, Or.inr ⟨rfl, d2⟩⟩
    · obtain ⟨s', d1, d2⟩ := e2.onq (G := fun s => (f_X9_readWhole s (1 : Int32) (999 : Int32)).bind fun r15 => dK_ r15) (fun sp a nu f w q hh => by
        obtain ⟨q', e⟩ := dd_dK (t := t) (sp := sp) (a := a) (nu := nu) (w := w) (q := q) hh nu
        exact ⟨q', eb (dd_whole hh _ _) e⟩)
      exact ⟨_, _, if_pos e1, d1, Or.inr ⟨rfl, d2⟩⟩
  · exact ⟨_, _, eb s1 (if_pos rfl), s2, Or.inr ⟨rfl, s3⟩⟩
