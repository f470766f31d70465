/-! lines -/
abbrev ZT : Type := (Nat → Int32) × (Nat → Int32) × (Nat → Int32) × (Nat → Int32) × (Nat → Int32) × (Nat → Int32) × Int32 × Int32 × Int32 × Int32 × Int32
abbrev yK_ (z : ZT) : Nat → Int32 := z.1
abbrev yS_ (z : ZT) : Nat → Int32 := z.2.1
abbrev yY_ (z : ZT) : Nat → Int32 := z.2.2.1
abbrev yV_ (z : ZT) : Nat → Int32 := z.2.2.2.1
abbrev yM_ (z : ZT) : Nat → Int32 := z.2.2.2.2.1
abbrev yT_ (z : ZT) : Nat → Int32 := z.2.2.2.2.2.1
abbrev yN_ (z : ZT) : Int32 := z.2.2.2.2.2.2.1
abbrev yH_ (z : ZT) : Int32 := z.2.2.2.2.2.2.2.1
abbrev yP_ (z : ZT) : Int32 := z.2.2.2.2.2.2.2.2.1
abbrev yL_ (z : ZT) : Int32 := z.2.2.2.2.2.2.2.2.2.1
abbrev yD_ (z : ZT) : Int32 := z.2.2.2.2.2.2.2.2.2.2
/-- one line on both sides -/
def LnR (kc vc : Nat) (ln : Nat → Int32) (z : ZT) (j : Nat) : Prop := ∃ tm, tm ≤ 9999 ∧ ln (j * 5 + 4) = nI tm ∧ yT_ z j = nI tm ∧ ((ln (j * 5 + 3) = nI 0 ∧ yK_ z j = nI 2) ∨ (¬ ln (j * 5 + 3) = nI 0 ∧ ¬ yK_ z j = nI 2 ∧ -9 ≤ (ln (j * 5 + 3)).toInt ∧ (ln (j * 5 + 3)).toInt ≤ 9 ∧ yM_ z j = ln (j * 5 + 3) ∧ ∃ sd k v, sd < 2 ∧ k < kc ∧ v < vc ∧ ln (j * 5) = nI sd ∧ yS_ z j = nI sd ∧ ln (j * 5 + 1) = nI k ∧ yY_ z j = nI k ∧ ln (j * 5 + 2) = nI v ∧ yV_ z j = nI v))
theorem LnR.mono {kc vc kc' vc' : Nat} {ln : Nat → Int32} {z : ZT} {j : Nat} (h : LnR kc vc ln z j) (hk : kc ≤ kc') (hv : vc ≤ vc') : LnR kc' vc' ln z j := by
  obtain ⟨tm, h1, h2, h3, h4⟩ := h
  refine ⟨tm, h1, h2, h3, ?_⟩
  rcases h4 with h4 | ⟨a1, a2, a3, a4, a5, sd, k, v, b1, b2, b3, b4⟩
  · exact Or.inl h4
  · exact Or.inr ⟨a1, a2, a3, a4, a5, sd, k, v, b1, by omega, by omega, b4⟩
/-- the desk's line on both sides -/
def RDk (im : Bool) (rd : RdT) (z : ZT) : Prop := (im = false ∧ Rd_hasDesk rd = nI 0 ∧ yD_ z = nI 0) ∨ (Rd_hasDesk rd = nI 1 ∧ yD_ z = nI 1 ∧ (im = false → ∃ h kp lt, h < 4 ∧ kp ≤ 999 ∧ lt ≤ 999 ∧ Rd_how rd = nI h ∧ yH_ z = nI h ∧ Rd_keep rd = nI kp ∧ yP_ z = nI kp ∧ Rd_late rd = nI lt ∧ yL_ z = nI lt))
/-- what is read, on both sides -/
def RQc (kc0 vc0 : Nat) (wd0 : Nat → Int64) (im : Bool) (rd : RdT) (q : QT) (kc vc c : Nat) : Prop := kc0 ≤ kc ∧ vc0 ≤ vc ∧ RW1 0 kc (Rd_keys rd) q.1 q.2.1 ∧ RW1 1 vc (Rd_values rd) q.1 q.2.1 ∧ (∀ k, k < kc0 → q.1 k = wd0 k) ∧ (∀ k, k < vc0 → q.1 (8 + k) = wd0 (8 + k)) ∧ c ≤ 40 ∧ Rd_count rd = nI c ∧ yN_ q.2.2 = nI c ∧ (∀ j, j < c → LnR kc vc (Rd_lines rd) q.2.2 j) ∧ RDk im rd q.2.2
def RQ (kc0 vc0 : Nat) (wd0 : Nat → Int64) (im : Bool) (rd : RdT) (q : QT) : Prop := ∃ kc vc c, RQc kc0 vc0 wd0 im rd q kc vc c
def adL (ln : Nat → Int32) (c : Nat) (a1 a2 a3 a4 a5 : Int32) : Nat → Int32 := upd (upd (upd (upd (upd ln (c * 5) a1) (c * 5 + 1) a2) (c * 5 + 2) a3) (c * 5 + 3) a4) (c * 5 + 4) a5
theorem c_adL (rd : RdT) {c : Nat} (a1 a2 a3 a4 a5 : Int32) (hc : c < 40) (hn : Rd_count rd = nI c) : f_X3_addLine rd a1 a2 a3 a4 a5 = some (Rd_w_count (Rd_w_lines rd (adL (Rd_lines rd) c a1 a2 a3 a4 a5)) (nI (c + 1))) := by
  unfold f_X3_addLine adL
  simp (disch := omega) only [li_0, li_1, li_2, li_3, li_4, li_5, li_6, li_7, li_8, li_9, li_10, li_11, li_12, li_13, li_14, li_15, li_16, li_20, li_30, li_31, li_32, li_40, li_42, li_45, li_48, li_57, li_58, li_59, li_60, li_64, li_74, li_75, li_81, li_97, li_122, li_124, li_143, li_151, li_159, li_167, li_175, li_200, li_255, li_648, li_650, li_823, li_900, li_999, li_1123, li_1298, li_1363, li_1379, li_2592, li_6571, li_9999, li_65536, li_65537, ng1, ng2, nI_add, pk_mul, remN, divN, inbI, ixN, leN, ltN, eqN, m1E, m1E', m2E, m12, m21, bsm, glE, b2iT, b2iF, if_pos, if_neg, ite_true, ite_false, not_true, not_false_iff, reduceCtorEq, hn]
def adZ (z : ZT) (c : Nat) (kd a1 a2 a3 a4 a5 : Int32) : ZT := (upd (yK_ z) c kd, upd (yS_ z) c a1, upd (yY_ z) c a2, upd (yV_ z) c a3, upd (yM_ z) c a4, upd (yT_ z) c a5, nI (c + 1), yH_ z, yP_ z, yL_ z, yD_ z)
theorem r_adZ (t : MoT) (p : Nat) (u : UT) (q : QT) {c : Nat} (kd a1 a2 a3 a4 a5 : Int32) (hc : c < 40) (hn : yN_ q.2.2 = nI c) : f_X9_addsLine (pu t p u q) kd a1 a2 a3 a4 a5 = some (pu t p u (q.1, q.2.1, adZ q.2.2 c kd a1 a2 a3 (if kd = (1 : Int32) then -a4 else a4) a5)) := by
  have hn' : Mo_lines (pu t p u q) = nI c := hn
  have i1 : inb (nI c) 40 := inbN hc (by omega)
  have e : ∀ y, some ((Mo_w_lines (Mo_w_lineTime (Mo_w_lineMany (Mo_w_lineValue (Mo_w_lineKey (Mo_w_lineSide (Mo_w_lineKind (pu t p u q) (upd (Mo_lineKind (pu t p u q)) (ix (nI c)) kd)) (upd (Mo_lineSide (pu t p u q)) (ix (nI c)) a1)) (upd (Mo_lineKey (pu t p u q)) (ix (nI c)) a2)) (upd (Mo_lineValue (pu t p u q)) (ix (nI c)) a3)) (upd (Mo_lineMany (pu t p u q)) (ix (nI c)) y)) (upd (Mo_lineTime (pu t p u q)) (ix (nI c)) a5)) (nI c + (1 : Int32)))) = some (pu t p u (q.1, q.2.1, adZ q.2.2 c kd a1 a2 a3 y a5)) := fun y => by
    rw [ixN (by omega), nI_1]
    unfold pu
    rw [ps_lineKind, ps_lineSide, ps_lineKey, ps_lineValue, ps_lineMany, ps_lineTime, ps_w_lineKind, ps_w_lineSide, ps_w_lineKey, ps_w_lineValue, ps_w_lineMany, ps_w_lineTime, ps_w_lines]
    rfl
  unfold f_X9_addsLine
  rw [hn']
  refine (if_pos z00).trans ((if_pos i1).trans ((if_pos i1).trans ((if_pos i1).trans ((if_pos i1).trans ?_))))
  by_cases k : kd = (1 : Int32)
  · rw [if_pos k]
    exact eg ((if_pos k).trans ((if_pos i1).trans ((if_pos i1).trans (e _))))
  · rw [if_neg k]
    exact eg ((if_neg k).trans ((if_pos i1).trans ((if_pos i1).trans (e _))))
theorem adL_e {ln : Nat → Int32} {c : Nat} {a1 a2 a3 a4 a5 : Int32} : adL ln c a1 a2 a3 a4 a5 (c * 5) = a1 ∧ adL ln c a1 a2 a3 a4 a5 (c * 5 + 1) = a2 ∧ adL ln c a1 a2 a3 a4 a5 (c * 5 + 2) = a3 ∧ adL ln c a1 a2 a3 a4 a5 (c * 5 + 3) = a4 ∧ adL ln c a1 a2 a3 a4 a5 (c * 5 + 4) = a5 := by
  unfold adL
  refine ⟨?_, ?_, ?_, ?_, us⟩
  · simp (disch := omega) only [un, us]
  · simp (disch := omega) only [un, us]
  · simp (disch := omega) only [un, us]
  · simp (disch := omega) only [un, us]
theorem adL_n {ln : Nat → Int32} {c i : Nat} {a1 a2 a3 a4 a5 : Int32} (h : i < c * 5) : adL ln c a1 a2 a3 a4 a5 i = ln i := by
  unfold adL
  simp (disch := omega) only [un]
theorem LnR.old {kc vc c j : Nat} {ln : Nat → Int32} {z : ZT} {kd a1 a2 a3 a4 a5 b1 b2 b3 b4 b5 : Int32} (h : LnR kc vc ln z j) (hj : j < c) : LnR kc vc (adL ln c a1 a2 a3 a4 a5) (adZ z c kd b1 b2 b3 b4 b5) j := by
  obtain ⟨tm, h1, h2, h3, h4⟩ := h
  have e : j ≠ c := by omega
  have eT : yT_ (adZ z c kd b1 b2 b3 b4 b5) j = yT_ z j := un e
  have eK : yK_ (adZ z c kd b1 b2 b3 b4 b5) j = yK_ z j := un e
  have eM : yM_ (adZ z c kd b1 b2 b3 b4 b5) j = yM_ z j := un e
  have eS : yS_ (adZ z c kd b1 b2 b3 b4 b5) j = yS_ z j := un e
  have eY : yY_ (adZ z c kd b1 b2 b3 b4 b5) j = yY_ z j := un e
  have eV : yV_ (adZ z c kd b1 b2 b3 b4 b5) j = yV_ z j := un e
  unfold LnR
  rw [adL_n (by omega), adL_n (by omega), adL_n (by omega), adL_n (by omega), adL_n (by omega), eT, eK, eM, eS, eY, eV]
  exact ⟨tm, h1, h2, h3, h4⟩
/-- what a line leaves behind: it goes on, or a flaw was met -/
def Ln (n kc0 vc0 : Nat) (wd0 : Nat → Int64) (im : Bool) (t : MoT) (p : Nat) (r : Int32 × RdT) (s : MoT) : Prop := (r.1 = 1 ∧ ∃ p' u' q', s = pu t p' u' q' ∧ At n t p' u' (Rd_tape r.2) ∧ RQ kc0 vc0 wd0 im r.2 q' ∧ Rd_hasDesk r.2 = nI 1 ∧ Rd_fault r.2 = nI 0 ∧ Rd_place r.2 = m1 ∧ p ≤ p' ∧ (Tp_kind (Rd_tape r.2) = nI 3 → p < p')) ∨ (r.1 = 0 ∧ De t r.2 s)
theorem Ln.from {n kc0 vc0 : Nat} {wd0 : Nat → Int64} {im : Bool} {t : MoT} {p p0 : Nat} {r : Int32 × RdT} {s : MoT} (h : Ln n kc0 vc0 wd0 im t p r s) (h0 : p0 ≤ p) : Ln n kc0 vc0 wd0 im t p0 r s := by
  rcases h with ⟨a, p', u', q', b1, b2, b3, b4, b5, b6, b7, b8⟩ | h
  · exact Or.inl ⟨a, p', u', q', b1, b2, b3, b4, b5, b6, by omega, fun c => by have := b8 c; omega⟩
  · exact Or.inr h
/-! an event's line, in pieces -/
def eJ17 (p1 y6 k v x5 : Int32) (s : MoT) : Option MoT := (f_X9_needs s 11).bind fun r20 => (f_X9_readWhole r20 (0 : Int32) (9999 : Int32)).bind fun r22 => (f_X9_addsLine (r22.2) p1 y6 k v x5 (r22.1)).bind fun r24 => some (r24)
def eB3 (p1 y6 k : Int32) (r13 : Int32 × MoT) : Option MoT := (f_X9_isWord (r13.2) 10).bind fun r15 => glt (fun (x5_18 : Int32) (s0_19 : MoT) => eJ17 p1 y6 k (r13.1) x5_18 s0_19) fun J17 => if r15 = 0 then J17 (1 : Int32) (r13.2) else (f_X9_next (r13.2)).bind fun r27 => (f_X9_readWhole r27 (1 : Int32) (9 : Int32)).bind fun r29 => J17 (r29.1) (r29.2)
def eB2 (p1 y6 : Int32) (r11 : Int32 × MoT) : Option MoT := (f_X9_readName (r11.2) (1 : Int32)).bind fun r13 => eB3 p1 y6 (r11.1) r13
def eB1 (p1 y6 : Int32) (s : MoT) : Option MoT := (f_X9_next s).bind fun r9 => (f_X9_readName r9 (0 : Int32)).bind fun r11 => eB2 p1 y6 r11
def evB (p1 : Int32) (r1 : MoT) : Option MoT := (f_X9_isWord r1 2).bind fun r3 => glt (fun (y6 : Int32) => glt (fun (s0_8 : MoT) => eB1 p1 y6 s0_8) fun J7 => if y6 = (-1 : Int32) then (f_X9_flaw r1 (1 : Int32)).bind fun r32 => J7 r32 else J7 r1) fun J5 => if r3 = 0 then (f_X9_isWord r1 3).bind fun r35 => if r35 = 0 then J5 (-1 : Int32) else J5 (1 : Int32) else J5 (0 : Int32)
theorem ev_eq (s : MoT) (k : Int32) : f_X9_readEvent s k = (f_X9_begins_ s).bind fun r1 => evB k r1 := rfl
theorem dd_17 {t : MoT} {sp a nu f : Int32} {w : Int64} {q : QT} (h : 1 ≤ f.toInt) (p1 y6 k v x5 : Int32) : eJ17 p1 y6 k v x5 (ps t sp 0 a nu f w q) = some (ps t sp 0 a nu f w q) := eb (dd_needs h (by omega)) (eb (dd_whole h _ _) (eb (dd_adds h _ _ _ _ _ _) rfl))
theorem dd_B3 {t : MoT} {sp a nu f : Int32} {w : Int64} {q : QT} (h : 1 ≤ f.toInt) (p1 y6 k v : Int32) : eB3 p1 y6 k (v, ps t sp 0 a nu f w q) = some (ps t sp 0 a nu f w q) := eb (dd_isWord (by omega)) (eg ((if_pos rfl).trans (dd_17 h _ _ _ _ _)))
theorem dd_B2 {t : MoT} {sp a nu f : Int32} {w : Int64} {q : QT} (h : 1 ≤ f.toInt) (p1 y6 v : Int32) : eB2 p1 y6 (v, ps t sp 0 a nu f w q) = some (ps t sp 0 a nu f w q) := eb (dd_name h _) (dd_B3 h _ _ _ _)
theorem dd_B1 {t : MoT} {sp a nu f : Int32} {w : Int64} {q : QT} (h : 1 ≤ f.toInt) (p1 y6 : Int32) : eB1 p1 y6 (ps t sp 0 a nu f w q) = some (ps t sp 0 a nu f w q) := eb (dd_next h) (eb (dd_name h _) (dd_B2 h _ _ _))
/-- behind a flaw the rest of the reference does nothing -/
theorem De.on {t : MoT} {rd : RdT} {s : MoT} (h : De t rd s) {G : MoT → Option MoT} (hG : ∀ sp a nu f w q, 1 ≤ f.toInt → G (ps t sp 0 a nu f w q) = some (ps t sp 0 a nu f w q)) : G s = some s := by
  obtain ⟨g1, g2, sp, nu, w, q, g3⟩ := h
  rw [g3]
  exact hG _ _ _ _ _ _ g2
theorem mny {m : Nat} (h1 : 1 ≤ m) (h2 : m ≤ 9) : (1 : Int32) * nI m = nI m ∧ (-1 : Int32) * nI m = -nI m ∧ ¬ nI m = nI 0 ∧ ¬ -nI m = nI 0 ∧ -9 ≤ (nI m).toInt ∧ (nI m).toInt ≤ 9 ∧ -9 ≤ (-nI m).toInt ∧ (-nI m).toInt ≤ 9 := by
  have key : ∀ m, m < 10 → 1 ≤ m → (1 : Int32) * nI m = nI m ∧ (-1 : Int32) * nI m = -nI m ∧ ¬ nI m = nI 0 ∧ ¬ -nI m = nI 0 ∧ -9 ≤ (nI m).toInt ∧ (nI m).toInt ≤ 9 ∧ -9 ≤ (-nI m).toInt ∧ (-nI m).toInt ≤ 9 := by decide +kernel
  exact key m (by omega) h1
