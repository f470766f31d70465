/-! the parsers side by side -/
abbrev UT : Type := Int32 × Nat × Int32 × Int64
def pu (t : MoT) (p : Nat) (u : UT) (q : QT) : MoT := ps t (nI p) u.1 (nI u.2.1) u.2.2.1 0 u.2.2.2 q
/-- the token that is looked at, on both sides -/
def At (n : Nat) (t : MoT) (p : Nat) (u : UT) (tp : TpT) : Prop := n ≤ 900 ∧ Mo_size t = nI n ∧ p ≤ n ∧ TB tp t ∧ Tp_end tp = nI n ∧ Tp_at tp = nI p ∧ Tp_start tp = nI u.2.1 ∧ TK (Tp_kind tp) u.1 (Tp_word tp) u.2.2.2 (Tp_whole tp) u.2.2.1
theorem nx0 {n : Nat} {t : MoT} {p : Nat} (tk a nu : Int32) (w : Int64) (q : QT) {tp : TpT} (hn : n ≤ 900) (hz : Mo_size t = nI n) (hp : p ≤ n) (hT : TB tp t) (he : Tp_end tp = nI n) (ha : Tp_at tp = nI p) : ∃ tp' p' u', f_X6_next tp = some tp' ∧ f_X9_next (ps t (nI p) tk a nu 0 w q) = some (pu t p' u' q) ∧ At n t p' u' tp' ∧ p ≤ p' ∧ (Tp_kind tp' = nI 3 → p < p') := by
  obtain ⟨tp', p', s, tk', nu', w', h1, h2, ⟨h3, h4, h5, h6, h7⟩, h8, h9, h10, h11⟩ := next2 tp t tk a nu w q hT hn he hz hp ha
  refine ⟨tp', p', (tk', s, nu', w'), h1, h2, ⟨hn, hz, h10, fun i hi => by rw [h3]; exact hT i hi, h5, h6, h7, h8⟩, h9, fun c => h11 ?_⟩
  rcases h8 with ⟨k1, k2⟩ | ⟨k1, k2, _⟩ | ⟨k1, k2, _⟩ | ⟨k1, k2⟩ | ⟨k1, k2⟩
  · rw [k1] at c; exact absurd c (by decide)
  · rw [k1] at c; exact absurd c (by decide)
  · rw [k1] at c; exact absurd c (by decide)
  · exact k2
  · rw [k1] at c; exact absurd c (by decide)
theorem nx {n : Nat} {t : MoT} {p : Nat} {u : UT} (q : QT) {tp : TpT} (h : At n t p u tp) : ∃ tp' p' u', f_X6_next tp = some tp' ∧ f_X9_next (pu t p u q) = some (pu t p' u' q) ∧ At n t p' u' tp' ∧ p ≤ p' ∧ (Tp_kind tp' = nI 3 → p < p') :=
  nx0 _ _ _ _ q h.1 h.2.1 h.2.2.1 h.2.2.2.1 h.2.2.2.2.1 h.2.2.2.2.2.1
/-- a flaw has been met: the reference stands still -/
def De (t : MoT) (rd : RdT) (s : MoT) : Prop := TB (Rd_tape rd) t ∧ 1 ≤ (Rd_fault rd).toInt ∧ ∃ sp nu w q, s = ps t sp 0 (Rd_place rd) nu (Rd_fault rd) w q
theorem dd0 {f : Int32} (h : 1 ≤ f.toInt) : ¬ f ≤ 0 ∧ ¬ f = 0 := by
  have e : (0 : Int32).toInt = 0 := rfl
  constructor
  · rw [leI, e]; omega
  · rw [eqI, e]; omega
theorem dd_next {t : MoT} {sp a nu f : Int32} {w : Int64} {q : QT} (h : 1 ≤ f.toInt) : f_X9_next (ps t sp 0 a nu f w q) = some (ps t sp 0 a nu f w q) := if_neg (dd0 h).1
theorem dd_flaw {t : MoT} {sp a nu f : Int32} {w : Int64} {q : QT} (h : 1 ≤ f.toInt) (c : Int32) : f_X9_flaw (ps t sp 0 a nu f w q) c = some (ps t sp 0 a nu f w q) := if_neg (dd0 h).2
theorem dd_isWord {t : MoT} {sp a nu f : Int32} {w : Int64} {q : QT} {i : Nat} (hi : i < 12) : f_X9_isWord (ps t sp 0 a nu f w q) i = some 0 := by
  rw [r_isWord _ hi, if_neg (fun c => absurd c.1 (by show ¬ (0 : Int32) = nI 2; decide))]
theorem dd_needs {t : MoT} {sp a nu f : Int32} {w : Int64} {q : QT} {i : Nat} (h : 1 ≤ f.toInt) (hi : i < 12) : f_X9_needs (ps t sp 0 a nu f w q) i = some (ps t sp 0 a nu f w q) := by
  unfold f_X9_needs
  exact eb (dd_isWord hi) ((if_pos rfl).trans (eb (dd_flaw h _) (eb (dd_next h) rfl)))
theorem dd_whole {t : MoT} {sp a nu f : Int32} {w : Int64} {q : QT} (h : 1 ≤ f.toInt) (lo hi : Int32) : f_X9_readWhole (ps t sp 0 a nu f w q) lo hi = some (nu, ps t sp 0 a nu f w q) := by
  unfold f_X9_readWhole
  have e : ¬ Mo_token (ps t sp 0 a nu f w q) = (3 : Int32) := by show ¬ (0 : Int32) = 3; decide
  exact (if_neg e).trans (eb (dd_flaw h _) (eb (dd_next h) rfl))
theorem dd_name {t : MoT} {sp a nu f : Int32} {w : Int64} {q : QT} (h : 1 ≤ f.toInt) (so : Int32) : f_X9_readName (ps t sp 0 a nu f w q) so = some (0, ps t sp 0 a nu f w q) := by
  unfold f_X9_readName
  have e : ¬ Mo_token (ps t sp 0 a nu f w q) = (2 : Int32) := by show ¬ (0 : Int32) = 2; decide
  rw [glE]
  exact (if_neg e).trans (eb (dd_flaw h _) (if_neg (dd0 h).1))
theorem dd_adds {t : MoT} {sp a nu f : Int32} {w : Int64} {q : QT} (h : 1 ≤ f.toInt) (a1 a2 a3 a4 a5 a6 : Int32) : f_X9_addsLine (ps t sp 0 a nu f w q) a1 a2 a3 a4 a5 a6 = some (ps t sp 0 a nu f w q) := by
  unfold f_X9_addsLine
  exact if_neg (dd0 h).1
/-- a flaw on both sides -/
theorem flaw2 {n p : Nat} {t : MoT} {u : UT} {q : QT} {rd : RdT} (h : At n t p u (Rd_tape rd)) {c : Nat} (h1 : 1 ≤ c) (h2 : c ≤ 5) : ∃ s, f_X9_flaw (pu t p u q) (nI c) = some s ∧ De t (Rd_w_place (Rd_w_fault rd (nI c)) (Tp_start (Rd_tape rd))) s := by
  refine ⟨ps t (nI p) 0 (nI u.2.1) u.2.2.1 (nI c) u.2.2.2 q, if_pos rfl, h.2.2.2.1, ?_, nI p, u.2.2.1, u.2.2.2, q, ?_⟩
  · show 1 ≤ (nI c).toInt
    rw [tI (by omega)]
    omega
  · show _ = ps t (nI p) 0 (Tp_start (Rd_tape rd)) u.2.2.1 (nI c) u.2.2.2 q
    rw [h.2.2.2.2.2.2.1]
theorem c_fail (rd : RdT) (c : Int32) : ((f_X3_fail rd c).bind fun r6 => if isB (r6.1) then some ((r6.1), (r6.2)) else none) = some ((0 : Int32), Rd_w_place (Rd_w_fault rd c) (Tp_start (Rd_tape rd))) := eb (a := ((0 : Int32), Rd_w_place (Rd_w_fault rd c) (Tp_start (Rd_tape rd)))) rfl (if_pos (Or.inl rfl))
/-- it goes on: the class's reader is F of the new tape, the reference's rest is q -/
def Go (n : Nat) (t : MoT) (p : Nat) (F : TpT → RdT) (q : QT) (r : Int32 × RdT) (s : MoT) : Prop := ∃ tp' p' u', r = (1, F tp') ∧ s = pu t p' u' q ∧ At n t p' u' tp' ∧ p ≤ p' ∧ (Tp_kind tp' = nI 3 → p < p')
theorem word2 {n p : Nat} {t : MoT} {u : UT} (q : QT) {rd : RdT} (h : At n t p u (Rd_tape rd)) {i : Nat} (hi : i < 12) {v : Int64} (hv : v = wN (le5 (wd_ i))) :
    Ok2 (f_X3_readWord rd v) (f_X9_needs (pu t p u q) i) (fun r s => Go n t p (fun tp' => Rd_w_tape rd tp') q r s ∨ (r.1 = 0 ∧ De t r.2 s)) := by
  unfold f_X3_readWord f_X9_needs
  rcases say2 (Rd_tape rd) (pu t p u q) hi hv h.2.2.2.2.2.2.2 with ⟨e1, e2, _⟩ | ⟨e1, e2⟩
  · obtain ⟨tp', p', u', n1, n2, n3, n4, n5⟩ := nx q h
    refine Ok2.bl e1 (Ok2.br e2 (Ok2.lf n10 (Ok2.rf n10 (Ok2.bl n1 (Ok2.br n2 (Ok2.ret (Or.inl ⟨tp', p', u', rfl, rfl, n3, n4, n5⟩)))))))
  · obtain ⟨s, f1, f2⟩ := flaw2 (q := q) h (c := 1) (by omega) (by omega)
    obtain ⟨g1, g2, sp, nu, w, q', g3⟩ := id f2
    refine Ok2.bl e1 (Ok2.br e2 (Ok2.lt rfl (Ok2.rt rfl (Ok2.br f1 (Ok2.br (by rw [g3]; exact dd_next g2) ⟨_, _, c_fail rd 1, by rw [← g3], Or.inr ⟨rfl, f2⟩⟩)))))
theorem whole2 {n p : Nat} {t : MoT} {u : UT} (q : QT) {rd : RdT} (h : At n t p u (Rd_tape rd)) {lo hi : Nat} (hlo : lo ≤ 9999) (hhi : hi ≤ 9999) :
    Ok2 (f_X3_readWhole rd (nI lo) (nI hi)) (f_X9_readWhole (pu t p u q) (nI lo) (nI hi)) (fun r s => (∃ m, lo ≤ m ∧ m ≤ hi ∧ s.1 = nI m ∧ Go n t p (fun tp' => Rd_w_number (Rd_w_tape rd tp') (nI m)) q r s.2) ∨ (r.1 = 0 ∧ De t r.2 s.2)) := by
  unfold f_X3_readWhole f_X9_readWhole
  have dead : ∀ c, 1 ≤ c → c ≤ 5 → ∃ s, f_X9_flaw (pu t p u q) (nI c) = some s ∧ De t (Rd_w_place (Rd_w_fault rd (nI c)) (Tp_start (Rd_tape rd))) s ∧ f_X9_next s = some s := fun c h1 h2 => by
    obtain ⟨s, f1, f2⟩ := flaw2 (q := q) h (c := c) h1 h2
    obtain ⟨g1, g2, sp, nu, w, q', g3⟩ := id f2
    exact ⟨s, f1, f2, by rw [g3]; exact dd_next g2⟩
  have other : (¬ Tp_kind (Rd_tape rd) = nI 2) → (¬ u.1 = nI 3) → Ok2 (if (Tp_kind (Rd_tape rd)) = (2 : Int32) then if (Tp_whole (Rd_tape rd)) < nI lo then (f_X3_fail rd (2 : Int32)).bind fun r3 => if isB (r3.1) then some ((r3.1), (r3.2)) else none else if (Tp_whole (Rd_tape rd)) ≤ nI hi then (f_X6_next (Rd_tape rd)).bind fun r7 => some ((1 : Int32), (Rd_w_number (Rd_w_tape rd r7) (Tp_whole (Rd_tape rd)))) else (f_X3_fail rd (2 : Int32)).bind fun r9 => if isB (r9.1) then some ((r9.1), (r9.2)) else none else (f_X3_fail rd (1 : Int32)).bind fun r12 => if isB (r12.1) then some ((r12.1), (r12.2)) else none)
      (if (Mo_token (pu t p u q)) = (3 : Int32) then (f_X9_in (Mo_number (pu t p u q)) (nI lo) (nI hi)).bind fun r2 => if r2 = 0 then (f_X9_flaw (pu t p u q) (2 : Int32)).bind fun r7 => (f_X9_next r7).bind fun r9 => some ((Mo_number r7), r9) else (f_X9_next (pu t p u q)).bind fun r5 => some ((Mo_number (pu t p u q)), r5) else (f_X9_flaw (pu t p u q) (1 : Int32)).bind fun r11 => (f_X9_next r11).bind fun r13 => some ((Mo_number r11), r13)) (fun r s => (∃ m, lo ≤ m ∧ m ≤ hi ∧ s.1 = nI m ∧ Go n t p (fun tp' => Rd_w_number (Rd_w_tape rd tp') (nI m)) q r s.2) ∨ (r.1 = 0 ∧ De t r.2 s.2)) := fun k1 k2 => by
    obtain ⟨s, f1, f2, f3⟩ := dead 1 (by omega) (by omega)
    exact Ok2.lf k1 (Ok2.rf k2 (Ok2.br f1 (Ok2.br f3 ⟨_, _, c_fail rd 1, rfl, Or.inr ⟨rfl, f2⟩⟩)))
  rcases h.2.2.2.2.2.2.2 with ⟨k1, k2⟩ | ⟨k1, k2, _⟩ | ⟨k1, k2, m, m1, m2, m3⟩ | ⟨k1, k2⟩ | ⟨k1, k2⟩
  · exact other (by rw [k1]; decide) (by rw [k2]; decide)
  · exact other (by rw [k1]; decide) (by rw [k2]; decide)
  · refine Ok2.lt k1 (Ok2.rt k2 ?_)
    have m3' : Mo_number (pu t p u q) = nI m := m3
    rw [m2, m3']
    by_cases a1 : m < lo
    · have i1 : f_X9_in (nI m) (nI lo) (nI hi) = some 0 := by
        unfold f_X9_in
        exact if_pos (nI_lt a1 (by omega))
      obtain ⟨s, f1, f2, f3⟩ := dead 2 (by omega) (by omega)
      exact Ok2.lt (nI_lt a1 (by omega)) (Ok2.br i1 (Ok2.rt rfl (Ok2.br f1 (Ok2.br f3 ⟨_, _, c_fail rd 2, rfl, Or.inr ⟨rfl, f2⟩⟩))))
    · by_cases a2 : m ≤ hi
      · have i1 : f_X9_in (nI m) (nI lo) (nI hi) = some 1 := by
          unfold f_X9_in
          exact (if_neg (nI_nlt (by omega) (by omega))).trans (if_neg (nI_nlt a2 (by omega)))
        obtain ⟨tp', p', u', n1, n2, n3, n4, n5⟩ := nx q h
        refine Ok2.lf (nI_nlt (by omega) (by omega)) (Ok2.lt (nI_le a2 (by omega)) (Ok2.br i1 (Ok2.rf n10 (Ok2.bl n1 (Ok2.br n2 (Ok2.ret (Or.inl ⟨m, by omega, a2, rfl, tp', p', u', rfl, rfl, n3, n4, n5⟩)))))))
      · have i1 : f_X9_in (nI m) (nI lo) (nI hi) = some 0 := by
          unfold f_X9_in
          exact (if_neg (nI_nlt (by omega) (by omega))).trans (if_pos (nI_lt (by omega) (by omega)))
        obtain ⟨s, f1, f2, f3⟩ := dead 2 (by omega) (by omega)
        exact Ok2.lf (nI_nlt (by omega) (by omega)) (Ok2.lf (nI_ge (by omega) (by omega)) (Ok2.br i1 (Ok2.rt rfl (Ok2.br f1 (Ok2.br f3 ⟨_, _, c_fail rd 2, rfl, Or.inr ⟨rfl, f2⟩⟩)))))
  · exact other (by rw [k1]; decide) (by rw [k2]; decide)
  · exact other (by rw [k1]; decide) (by rw [k2]; decide)
