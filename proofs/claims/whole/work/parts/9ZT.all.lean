/-! any line; all lines -/
theorem says_ne {tp : TpT} {a b : Int64} (h : f_X6_says tp a = some 1) (ne : ¬ a = b) : f_X6_says tp b = some 0 := by
  rw [c_says] at h ⊢
  by_cases e : Tp_kind tp = nI 1 ∧ Tp_word tp = b
  · rw [if_neg (fun c => ne (by rw [← c.2, ← e.2]))] at h
    exact absurd h (by decide)
  · rw [if_neg e]
theorem Ln.isb {n kc0 vc0 p : Nat} {wd0 : Nat → Int64} {im : Bool} {t : MoT} {o : Option (Int32 × RdT)} {s : Option MoT} (h : Ok2 o s (Ln n kc0 vc0 wd0 im t p)) : Ok2 (o.bind fun r => if isB (r.1) then some ((r.1), (r.2)) else none) s (Ln n kc0 vc0 wd0 im t p) := by
  obtain ⟨r, s', e1, e2, e3⟩ := h
  have hb : isB r.1 := by
    rcases e3 with ⟨a, _⟩ | ⟨a, _⟩
    · exact Or.inr a
    · exact Or.inl a
  exact ⟨r, s', eb e1 (if_pos hb), e2, e3⟩
theorem beg2 {n kc0 vc0 kc vc c p : Nat} {wd0 : Nat → Int64} {im : Bool} {t : MoT} {u : UT} {q : QT} {rd : RdT} (h : At n t p u (Rd_tape rd)) (hQ : RQc kc0 vc0 wd0 im rd q kc vc c) {G : RdT → Option (Int32 × RdT)} {Bo : MoT → Option MoT} (hD : ∀ sp a nu f w q, 1 ≤ f.toInt → Bo (ps t sp 0 a nu f w q) = some (ps t sp 0 a nu f w q))
    (hA : ∀ p1 u1 tp1, At n t p1 u1 tp1 → p ≤ p1 → c < 40 → Rd_hasDesk rd = nI 1 → Ok2 (G (Rd_w_tape rd tp1)) (Bo (pu t p1 u1 q)) (Ln n kc0 vc0 wd0 im t p1)) :
    Ok2 (if (Rd_count rd) < (40 : Int32) then if (Rd_hasDesk rd) = 0 then (f_X3_fail rd (5 : Int32)).bind fun r24 => if isB (r24.1) then some ((r24.1), (r24.2)) else none else (f_X6_next (Rd_tape rd)).bind fun r11 => G (Rd_w_tape rd r11) else (f_X3_fail rd (4 : Int32)).bind fun r27 => if isB (r27.1) then some ((r27.1), (r27.2)) else none)
      ((f_X9_begins_ (pu t p u q)).bind fun r1 => Bo r1) (Ln n kc0 vc0 wd0 im t p) := by
  obtain ⟨a1, a2, a3, a4, a5, a6, a7, a8, a9, a10, a11⟩ := id hQ
  have a9' : Mo_lines (pu t p u q) = nI c := a9
  have dead : ∀ {rd' : RdT} {s : MoT}, De t rd' s → (if Mo_hasDesk s = 0 then (f_X9_flaw s (5 : Int32)).bind fun r6 => (f_X9_next r6).bind fun r8 => some (r8) else (f_X9_next s).bind fun r4 => some (r4)) = some s := fun {rd' s} hd => by
    obtain ⟨g1, g2, sp, nu, w, q', g3⟩ := hd
    rw [g3]
    by_cases e : Mo_hasDesk (ps t sp 0 (Rd_place rd') nu (Rd_fault rd') w q') = 0
    · exact (if_pos e).trans (eb (dd_flaw g2 _) (eb (dd_next g2) rfl))
    · exact (if_neg e).trans (eb (dd_next g2) rfl)
  unfold f_X9_begins_
  rw [glE]
  by_cases e : c = 40
  · have n1 : ¬ Rd_count rd < (40 : Int32) := by rw [a8, e]; decide
    have n2 : Mo_lines (pu t p u q) = (40 : Int32) := by rw [a9', e]; rfl
    obtain ⟨s, f1, f2⟩ := flaw2 (q := q) h (c := 4) (by omega) (by omega)
    have e2 := f2.on hD
    exact ⟨_, _, (if_neg n1).trans (c_fail rd 4), eb ((if_pos n2).trans (eb f1 (dead f2))) e2, Or.inr ⟨rfl, f2⟩⟩
  · have n1 : Rd_count rd < (40 : Int32) := by rw [a8]; exact nI_lt (b := 40) (by omega) (by omega)
    have n2 : ¬ Mo_lines (pu t p u q) = (40 : Int32) := fun g => by
      rw [a9'] at g
      have := (nI_eq (a := c) (b := 40) (by omega) (by omega)).mp g
      omega
    rcases a11 with ⟨b1, b2, b3⟩ | ⟨b2, b3, b4⟩
    · have m1 : Rd_hasDesk rd = 0 := b2
      have m2 : Mo_hasDesk (pu t p u q) = 0 := b3
      obtain ⟨s, f1, f2⟩ := flaw2 (q := q) h (c := 5) (by omega) (by omega)
      have e2 := f2.on hD
      obtain ⟨g1, g2, sp, nu, w, q', g3⟩ := id f2
      have e3 : f_X9_next s = some s := by rw [g3]; exact dd_next g2
      exact ⟨_, _, (if_pos n1).trans ((if_pos m1).trans (c_fail rd 5)), eb ((if_neg n2).trans ((if_pos m2).trans (eb f1 (eb e3 rfl)))) e2, Or.inr ⟨rfl, f2⟩⟩
    · have m1 : ¬ Rd_hasDesk rd = 0 := by rw [b2]; decide
      have m2 : ¬ Mo_hasDesk (pu t p u q) = 0 := by show ¬ yD_ q.2.2 = 0; rw [b3]; decide
      obtain ⟨tp1, p1, u1, x1, x2, x3, x4, x5⟩ := nx q h
      obtain ⟨r, s, y1, y2, y3⟩ := hA p1 u1 tp1 x3 x4 (by omega) b2
      exact ⟨r, s, (if_pos n1).trans ((if_neg m1).trans (eb x1 y1)), eb ((if_neg n2).trans ((if_neg m2).trans (eb x2 rfl))) y2, y3.from x4⟩
theorem line2 {n kc0 vc0 kc vc c p : Nat} {wd0 : Nat → Int64} {im : Bool} {t : MoT} {u : UT} {q : QT} {rd : RdT} (h : At n t p u (Rd_tape rd)) (hQ : RQc kc0 vc0 wd0 im rd q kc vc c) (hf : Rd_fault rd = nI 0) (hl : Rd_place rd = m1) :
    Ok2 (f_X3_readLine rd) (f_X9_readLine (pu t p u q)) (Ln n kc0 vc0 wd0 im t p) := by
  have h8 := h.2.2.2.2.2.2.2
  unfold f_X3_readLine f_X9_readLine
  rcases say2 (Rd_tape rd) (pu t p u q) (i := 0) (by omega) (v := 1802724708) (by decide +kernel) h8 with ⟨a0, b0, _⟩ | ⟨a0, b0⟩
  · refine Ok2.bl a0 (Ok2.br b0 (Ok2.lf n10 (Ok2.rf n10 ?_)))
    rcases hQ.2.2.2.2.2.2.2.2.2.2 with ⟨d1, d2, d3⟩ | ⟨d2, d3, d4⟩
    · subst d1
      refine Ok2.lt d2 ?_
      obtain ⟨r, s, y1, y2, y3⟩ := Ln.isb (deskl2 h hQ d2 d3 hf hl)
      exact ⟨r, s, y1, eb y2 rfl, y3⟩
    · have m1 : ¬ Rd_hasDesk rd = 0 := by rw [d2]; decide
      have m2 : ¬ Mo_hasDesk (pu t p u q) = 0 := by show ¬ yD_ q.2.2 = 0; rw [d3]; decide
      obtain ⟨s, f1, f2⟩ := flaw2 (q := q) h (c := 3) (by omega) (by omega)
      obtain ⟨s', e1, e2⟩ := f2.onq (G := fun s => (f_X9_next s).bind fun r3 => dJ3 r3) (fun sp a nu f w q hh => by
        obtain ⟨q', e⟩ := dd_J3 (t := t) (sp := sp) (a := a) (nu := nu) (w := w) (q := q) hh
        exact ⟨q', eb (dd_next hh) e⟩)
      exact ⟨_, s', (if_neg m1).trans (c_fail rd 3), eb ((dk_eq _).trans ((glE _ _).trans ((if_neg m2).trans (eb f1 e1)))) rfl, Or.inr ⟨rfl, e2⟩⟩
  · refine Ok2.bl a0 (Ok2.br b0 (Ok2.lt rfl (Ok2.rt rfl ?_)))
    rcases say2 (Rd_tape rd) (pu t p u q) (i := 7) (by omega) (v := 7632240) (by decide +kernel) h8 with ⟨a7, b7, _⟩ | ⟨a7, b7⟩
    · -- put
      have a9 := says_ne (b := 1801677172) a7 (by decide)
      refine Ok2.bl a7 (Ok2.bl a9 (Ok2.br b7 (Ok2.rf n10 ?_)))
      rw [glE]
      refine Ok2.lf n10 ?_
      obtain ⟨r, s, y1, y2, y3⟩ := beg2 h hQ (G := fun rd' => (f_X3_readEvent rd' (1 : Int32)).bind fun r18 => if isB (r18.1) then some ((r18.1), (r18.2)) else none) (Bo := fun r1 => evB (nI 0) r1) (fun sp a nu f w q hh => by
        refine eb (dd_isWord (by omega)) (eg ((if_pos rfl).trans (eb (dd_isWord (by omega)) ((if_pos rfl).trans (eg ((if_pos rfl).trans (eb (dd_flaw hh _) (dd_B1 hh _ _))))))))) (fun p1 u1 tp1 x3 x4 x5 x6 => Ln.isb (event2 (rd := Rd_w_tape rd tp1) x3 hQ x5 x6 hf hl (Or.inl ⟨rfl, rfl⟩)))
      exact ⟨r, s, y1, eb ((ev_eq _ _).trans y2) rfl, y3⟩
    · rcases say2 (Rd_tape rd) (pu t p u q) (i := 8) (by omega) (v := 1801675106) (by decide +kernel) h8 with ⟨a8, b8, _⟩ | ⟨a8, b8⟩
      · -- back
        have a9 := says_ne (b := 1801677172) a8 (by decide)
        refine Ok2.bl a7 (Ok2.bl a9 (Ok2.br b7 (Ok2.rt rfl (Ok2.br b8 (Ok2.rf n10 ?_)))))
        rw [glE]
        refine Ok2.lt rfl (Ok2.lt rfl (Ok2.bl a8 (Ok2.lf n10 ?_)))
        obtain ⟨r, s, y1, y2, y3⟩ := beg2 h hQ (G := fun rd' => (f_X3_readEvent rd' (-1 : Int32)).bind fun r18 => if isB (r18.1) then some ((r18.1), (r18.2)) else none) (Bo := fun r1 => evB (nI 1) r1) (fun sp a nu f w q hh => by
          refine eb (dd_isWord (by omega)) (eg ((if_pos rfl).trans (eb (dd_isWord (by omega)) ((if_pos rfl).trans (eg ((if_pos rfl).trans (eb (dd_flaw hh _) (dd_B1 hh _ _))))))))) (fun p1 u1 tp1 x3 x4 x5 x6 => Ln.isb (event2 (rd := Rd_w_tape rd tp1) x3 hQ x5 x6 hf hl (Or.inr ⟨rfl, rfl⟩)))
        exact ⟨r, s, y1, eb ((ev_eq _ _).trans y2) rfl, y3⟩
      · rcases say2 (Rd_tape rd) (pu t p u q) (i := 9) (by omega) (v := 1801677172) (by decide +kernel) h8 with ⟨a9, b9, _⟩ | ⟨a9, b9⟩
        · -- tick
          refine Ok2.bl a7 (Ok2.bl a9 (Ok2.br b7 (Ok2.rt rfl (Ok2.br b8 (Ok2.rt rfl (Ok2.br b9 (Ok2.rf n10 ?_)))))))
          rw [glE]
          refine Ok2.lt rfl (Ok2.lf n10 ?_)
          obtain ⟨r, s, y1, y2, y3⟩ := beg2 h hQ (G := fun rd' => (f_X3_readTick rd').bind fun r18 => if isB (r18.1) then some ((r18.1), (r18.2)) else none) (Bo := fun r1 => tkB r1) (fun sp a nu f w q hh => dd_tk hh) (fun p1 u1 tp1 x3 x4 x5 x6 => Ln.isb (tick2 (rd := Rd_w_tape rd tp1) x3 hQ x5 x6 hf hl))
          exact ⟨r, s, y1, eb ((tk_eq _).trans y2) rfl, y3⟩
        · obtain ⟨s, f1, f2⟩ := flaw2 (q := q) h (c := 1) (by omega) (by omega)
          refine Ok2.bl a7 (Ok2.bl a9 (Ok2.br b7 (Ok2.rt rfl (Ok2.br b8 (Ok2.rt rfl (Ok2.br b9 (Ok2.rt rfl ?_)))))))
          rw [glE]
          exact ⟨_, s, (if_pos rfl).trans ((if_pos rfl).trans (eb a8 ((if_pos rfl).trans (c_fail rd 1)))), eb f1 rfl, Or.inr ⟨rfl, f2⟩⟩
/-- the loops over the lines -/
theorem loop2 {n kc0 vc0 : Nat} {wd0 : Nat → Int64} {im : Bool} {t : MoT} {K5 : Int32 → RdT → Option (Int32 × RdT)} {K6 : MoT → Option MoT} {P : Int32 × RdT → MoT → Prop}
    (hA : ∀ rd p u q, At n t p u (Rd_tape rd) → ¬ Tp_kind (Rd_tape rd) = nI 3 → RQ kc0 vc0 wd0 im rd q → Rd_hasDesk rd = nI 1 → Rd_fault rd = nI 0 → Rd_place rd = m1 → Ok2 (K5 1 rd) (K6 (pu t p u q)) P)
    (hD : ∀ rd s, De t rd s → Ok2 (K5 0 rd) (K6 s) P) : ∀ (d p i f1 f2 : Nat) (r : Int32 × RdT) (s : MoT), Ln n kc0 vc0 wd0 im t p r s → (Tp_kind (Rd_tape r.2) = nI 3 → n - p ≤ d) → i ≤ p → d < f1 → d < f2 → Ok2 (f_X3_readLines_L30_16 K5 f1 (r.1) (nI i) (r.2)) (f_X9_readAll_L18_17 K6 f2 s) P := by
  intro d
  induction d with
  | zero =>
    intro p i f1 f2 r s hL hk hi h1 h2
    obtain ⟨g1, rfl⟩ : ∃ g, f1 = g + 1 := ⟨f1 - 1, by omega⟩
    obtain ⟨g2, rfl⟩ : ∃ g, f2 = g + 1 := ⟨f2 - 1, by omega⟩
    rw [f_X3_readLines_L30_16, f_X9_readAll_L18_17]
    rcases hL with ⟨e1, p', u', q', b1, b2, b3, b4, b5, b6, b7, b8⟩ | ⟨e1, b2⟩
    · have hp' := b2.2.2.1
      have nk : ¬ Tp_kind (Rd_tape r.2) = nI 3 := fun g => by have := b8 g; have := hk g; omega
      have nt : ¬ Mo_token s = (4 : Int32) := fun g => nk (by
        rw [b1] at g
        have g : u'.1 = nI 4 := g
        rcases b2.2.2.2.2.2.2.2 with ⟨k1, k2⟩ | ⟨k1, k2, _⟩ | ⟨k1, k2, _⟩ | ⟨k1, k2⟩ | ⟨k1, k2⟩
        · rw [k2] at g; exact absurd g (by decide)
        · rw [k2] at g; exact absurd g (by decide)
        · rw [k2] at g; exact absurd g (by decide)
        · exact k1
        · rw [k2] at g; exact absurd g (by decide))
      obtain ⟨r', s', y1, y2, y3⟩ := hA r.2 p' u' q' b2 nk b3 b4 b5 b6
      refine ⟨r', s', ?_, (if_neg nt).trans (by rw [b1]; exact y2), y3⟩
      rw [e1]
      by_cases g : (900 : Int32) ≤ nI i
      · exact (if_pos g).trans y1
      · exact (if_neg g).trans ((if_neg n10).trans ((if_neg nk).trans y1))
    · obtain ⟨r', s', y1, y2, y3⟩ := hD r.2 s b2
      have nt : ¬ Mo_token s = (4 : Int32) := by
        obtain ⟨g1, g2, sp, nu, w, q', g3⟩ := b2
        rw [g3]
        show ¬ (0 : Int32) = 4
        decide
      refine ⟨r', s', ?_, (if_neg nt).trans y2, y3⟩
      rw [e1]
      by_cases g : (900 : Int32) ≤ nI i
      · exact (if_pos g).trans y1
      · exact (if_neg g).trans ((if_pos rfl).trans y1)
  | succ d ih =>
    intro p i f1 f2 r s hL hk hi h1 h2
    obtain ⟨g1, rfl⟩ : ∃ g, f1 = g + 1 := ⟨f1 - 1, by omega⟩
    obtain ⟨g2, rfl⟩ : ∃ g, f2 = g + 1 := ⟨f2 - 1, by omega⟩
    rw [f_X3_readLines_L30_16, f_X9_readAll_L18_17]
    rcases hL with ⟨e1, p', u', q', b1, b2, b3, b4, b5, b6, b7, b8⟩ | ⟨e1, b2⟩
    · have hp' := b2.2.2.1
      have hn := b2.1
      by_cases yk : Tp_kind (Rd_tape r.2) = nI 3
      · have nt : Mo_token s = (4 : Int32) := by
          rw [b1]
          show u'.1 = nI 4
          rcases b2.2.2.2.2.2.2.2 with ⟨k1, k2⟩ | ⟨k1, k2, _⟩ | ⟨k1, k2, _⟩ | ⟨k1, k2⟩ | ⟨k1, k2⟩
          · rw [k1] at yk; exact absurd yk (by decide)
          · rw [k1] at yk; exact absurd yk (by decide)
          · rw [k1] at yk; exact absurd yk (by decide)
          · exact k2
          · rw [k1] at yk; exact absurd yk (by decide)
        have lt := b8 yk
        have ll := hk yk
        obtain ⟨tp1, p1, u1, x1, x2, x3, x4, x5⟩ := nx q' b2
        obtain ⟨kc, vc, c, hQ⟩ := b3
        obtain ⟨r2, s2, y1, y2, y3⟩ := line2 (rd := Rd_w_tape r.2 tp1) x3 hQ b5 b6
        have y3' := y3.from (p0 := p1) (Nat.le_refl _)
        obtain ⟨r3, s3, w1, w2, w3⟩ := ih p1 (i + 1) g1 g2 r2 s2 y3' (fun g => by omega) (by omega) (by omega) (by omega)
        refine ⟨r3, s3, ?_, (if_pos nt).trans (by rw [b1]; exact eb x2 (eb y2 w2)), w3⟩
        rw [e1]
        have g9 : ¬ (900 : Int32) ≤ nI i := nI_ge (b := 900) (by omega) (by omega)
        refine (if_neg g9).trans ((if_neg n10).trans ((if_pos yk).trans (eb x1 (eb y1 ?_))))
        rw [nI_1]
        exact w1
      · have nt : ¬ Mo_token s = (4 : Int32) := fun g => yk (by
          rw [b1] at g
          have g : u'.1 = nI 4 := g
          rcases b2.2.2.2.2.2.2.2 with ⟨k1, k2⟩ | ⟨k1, k2, _⟩ | ⟨k1, k2, _⟩ | ⟨k1, k2⟩ | ⟨k1, k2⟩
          · rw [k2] at g; exact absurd g (by decide)
          · rw [k2] at g; exact absurd g (by decide)
          · rw [k2] at g; exact absurd g (by decide)
          · exact k1
          · rw [k2] at g; exact absurd g (by decide))
        obtain ⟨r', s', y1, y2, y3⟩ := hA r.2 p' u' q' b2 yk b3 b4 b5 b6
        refine ⟨r', s', ?_, (if_neg nt).trans (by rw [b1]; exact y2), y3⟩
        rw [e1]
        by_cases g : (900 : Int32) ≤ nI i
        · exact (if_pos g).trans y1
        · exact (if_neg g).trans ((if_neg n10).trans ((if_neg yk).trans y1))
    · obtain ⟨r', s', y1, y2, y3⟩ := hD r.2 s b2
      have nt : ¬ Mo_token s = (4 : Int32) := by
        obtain ⟨g1, g2, sp, nu, w, q', g3⟩ := b2
        rw [g3]
        show ¬ (0 : Int32) = 4
        decide
      refine ⟨r', s', ?_, (if_neg nt).trans y2, y3⟩
      rw [e1]
      by_cases g : (900 : Int32) ≤ nI i
      · exact (if_pos g).trans y1
      · exact (if_neg g).trans ((if_pos rfl).trans y1)
