/-! the relation of the whole: the class's object beside the reference's -/
def isBy (v : Int32) : Prop := -128 ≤ v.toInt ∧ v.toInt ≤ 127
def RTape (tp : TpT) (sm : MoT) : Prop := (∃ t, t ≤ 900 ∧ Tp_length tp = nI t ∧ Mo_taped sm = nI t) ∧ ∀ i, i < 900 → Tp_bytes tp i = Mo_tape sm i ∧ isBy (Tp_bytes tp i)
def RTr (tr fa pc : Int32) (sm : MoT) : Prop := Mo_trouble sm = tr ∧ Mo_fault sm = fa ∧ Mo_wrongAt sm = (if tr = nI 4 then pc else m1)
/-- no desk yet -/
def RN (s : OuNT) (sm : MoT) : Prop := RTape (Rd_tape (OuN_reader s)) sm ∧ RTr (OuN_trouble s) (OuN_fault s) (OuN_place s) sm ∧ OuN_isKept s = nI 0 ∧ Mo_isThere sm = nI 0 ∧ Mo_hasImage sm = nI 0
/-- a desk -/
def RB (n kc vc : Nat) (s : OuBT) (sm : MoT) : Prop := RTape (Rd_tape (OuB_reader s)) sm ∧ RTr (OuB_trouble s) (OuB_fault s) (OuB_place s) sm ∧ Mo_isThere sm = nI 1 ∧ ∃ T, T ≤ 960 * n ∧ RBk 0 kc vc T (360 * n) (OuB_books s) (Mo_words sm) (Mo_x sm)
/-- what is kept -/
def Sh (n kc vc : Nat) (kept : Int32) (h : BkT) (sm : MoT) : Prop := (kept = nI 0 ∧ Mo_hasImage sm = nI 0) ∨ (kept = nI 1 ∧ Mo_hasImage sm = nI 1 ∧ ∃ kc' vc' T', kc' ≤ kc ∧ vc' ≤ vc ∧ T' ≤ 960 * n ∧ RBk 2 kc' vc' T' (360 * n) h (Mo_words sm) (Mo_x sm))
def Rel (n : Nat) (cs : CS) (sm : MoT) : Prop := match cs with
  | .inl s => RN s sm
  | .inr (.inl s) => OuB_isKept s = nI 0 ∧ Mo_hasImage sm = nI 0 ∧ ∃ kc vc, RB n kc vc s sm
  | .inr (.inr (s, h)) => ∃ kc vc, RB n kc vc s sm ∧ Sh n kc vc (OuB_isKept s) h sm
theorem RBd.bank {b h T : Nat} {bd : BdT} {x y : Nat → Int32} (hR : RBd b h T bd x) (e : ∀ i, 6571 * b ≤ i → i < 6571 * b + 6571 → y i = x i) : RBd b h T bd y := by
  obtain ⟨a1, a2, a3, a4, a5, a6, a7⟩ := hR
  exact ⟨fun i hi => by unfold xn; rw [e _ (by omega) (by omega)]; exact a1 i hi, a2, by rw [e _ (by omega) (by omega)]; exact a3, a4, fun i hi => by rw [e _ (by omega) (by omega)]; exact a5 i hi, RL_fr a6 (fun i hi => e _ (by omega) (by omega)), fun k l r p1 p2 p3 => by rw [e _ (by omega) (by omega)]; exact a7 k l r p1 p2 p3⟩
theorem RBk.bank {b kc vc T B : Nat} {bk : BkT} {wd : Nat → Int64} {x y : Nat → Int32} (hR : RBk b kc vc T B bk wd x) (e : ∀ i, 6571 * b ≤ i → i < 6571 * b + 6571 → y i = x i) : RBk b kc vc T B bk wd y := by
  obtain ⟨⟨h, h1⟩, h2, h3, h4, h5, h6, h7, h8, h9⟩ := hR
  refine ⟨⟨h, h1.bank e⟩, h2.fr (e _ (by omega) (by omega)) (e _ (by omega) (by omega)), h3.fr (fun i _ _ => e _ (by omega) (by omega)), ?_, h5.fr (fun i hi => e _ (by omega) (by omega)), ⟨h6.1, fun k l r p1 p2 p3 p4 => h6.2 k l r p1 p2 p3 (by rw [e _ (by omega) (by omega)] at p4; exact p4)⟩, h7.fr (e _ (by omega) (by omega)) (fun i _ _ => e _ (by omega) (by omega)), h8.fr (Nat.le_refl _) (fun i _ _ => e _ (by omega) (by omega)), h9⟩
  intro k hk
  rw [e _ (by omega) (by omega), e _ (by omega) (by omega)]
  exact h4 k hk
theorem RBk.mono {b kc vc T B B' : Nat} {bk : BkT} {wd : Nat → Int64} {x : Nat → Int32} (hR : RBk b kc vc T B bk wd x) (e : B ≤ B') : RBk b kc vc T B' bk wd x := by
  obtain ⟨h1, h2, h3, h4, h5, h6, h7, h8, h9⟩ := hR
  exact ⟨h1, h2, h3, h4, h5, h6, h7, h8, h9.mono e⟩
/-- the reference's object in all that later calls show, but for trouble -/
def SC (sm sm' : MoT) : Prop := Mo_words sm' = Mo_words sm ∧ Mo_tape sm' = Mo_tape sm ∧ Mo_taped sm' = Mo_taped sm ∧ Mo_isThere sm' = Mo_isThere sm ∧ Mo_hasImage sm' = Mo_hasImage sm ∧ Mo_fault sm' = Mo_fault sm
/-- the shelf's side of a call that leaves the shelf -/
def KS (s : OuBT) (sm : MoT) (s' : OuBT) (sm' : MoT) : Prop := OuB_isKept s' = OuB_isKept s ∧ Mo_hasImage sm' = Mo_hasImage sm ∧ Mo_words sm' = Mo_words sm ∧ ∀ i, 13142 ≤ i → i < 19713 → Mo_x sm' i = Mo_x sm i
theorem Sh.ks {n kc vc : Nat} {s s' : OuBT} {h : BkT} {sm sm' : MoT} (hS : Sh n kc vc (OuB_isKept s) h sm) (k : KS s sm s' sm') : Sh (n + 1) kc vc (OuB_isKept s') h sm' := by
  obtain ⟨k1, k2, k3, k4⟩ := k
  rcases hS with ⟨a, b⟩ | ⟨a, b, kc', vc', T', c1, c2, c3, c4⟩
  · exact Or.inl ⟨by rw [k1]; exact a, by rw [k2]; exact b⟩
  · exact Or.inr ⟨by rw [k1]; exact a, by rw [k2]; exact b, kc', vc', T', c1, c2, by omega, by rw [k3]; exact (c4.bank (fun i h1 h2 => k4 i (by omega) (by omega))).mono (by omega)⟩
/-- from the desk's calls to the object's -/
theorem lift1 {n : Nat} {cs : CS} {sm : MoT} {fc : CS → Option (Int32 × CS)} {fN : OuNT → Option (Int32 × OuNT)} {fB : OuBT → Option (Int32 × OuBT)} {fm : MoT → Option (Int32 × MoT)}
    (e1 : ∀ s, fc (.inl s) = (fN s).map fun q => (q.1, csN q.2)) (e2 : ∀ s, fc (.inr (.inl s)) = (fB s).map fun q => (q.1, csB q.2)) (e3 : ∀ s h, fc (.inr (.inr (s, h))) = (fB s).map fun q => (q.1, csS q.2 h))
    (hN : ∀ s, RN s sm → ∃ r s' sm', fN s = some (r, s') ∧ fm sm = some (r, sm') ∧ RN s' sm')
    (hB : ∀ s kc vc, RB n kc vc s sm → ∃ r s' sm', fB s = some (r, s') ∧ fm sm = some (r, sm') ∧ RB (n + 1) kc vc s' sm' ∧ KS s sm s' sm')
    (hR : Rel n cs sm) : ∃ r cs' sm', fc cs = some (r, cs') ∧ fm sm = some (r, sm') ∧ Rel (n + 1) cs' sm' := by
  rcases cs with s | s | ⟨s, h⟩
  · obtain ⟨r, s', sm', a, b, c⟩ := hN s hR
    exact ⟨r, csN s', sm', by rw [e1, a]; rfl, b, c⟩
  · obtain ⟨k1, k2, kc, vc, k3⟩ := hR
    obtain ⟨r, s', sm', a, b, c, d⟩ := hB s kc vc k3
    exact ⟨r, csB s', sm', by rw [e2, a]; rfl, b, by rw [← k1]; exact d.1, by rw [← k2]; exact d.2.1, kc, vc, c⟩
  · obtain ⟨kc, vc, k3, k4⟩ := hR
    obtain ⟨r, s', sm', a, b, c, d⟩ := hB s kc vc k3
    exact ⟨r, csS s' h, sm', by rw [e3, a]; rfl, b, kc, vc, c, k4.ks d⟩
theorem lift0 {n : Nat} {cs : CS} {sm : MoT} {fc : CS → Option (Int32 × CS)} {fN : OuNT → Option Int32} {fB : OuBT → Option Int32} {fm : MoT → Option (Int32 × MoT)}
    (e1 : ∀ s, fc (.inl s) = (fN s).map fun q => (q, csN s)) (e2 : ∀ s, fc (.inr (.inl s)) = (fB s).map fun q => (q, csB s)) (e3 : ∀ s h, fc (.inr (.inr (s, h))) = (fB s).map fun q => (q, csS s h))
    (hN : ∀ s, RN s sm → ∃ r sm', fN s = some r ∧ fm sm = some (r, sm') ∧ RN s sm')
    (hB : ∀ s kc vc, RB n kc vc s sm → ∃ r sm', fB s = some r ∧ fm sm = some (r, sm') ∧ RB (n + 1) kc vc s sm' ∧ KS s sm s sm')
    (hR : Rel n cs sm) : ∃ r cs' sm', fc cs = some (r, cs') ∧ fm sm = some (r, sm') ∧ Rel (n + 1) cs' sm' :=
  lift1 (fN := fun s => (fN s).map fun q => (q, s)) (fB := fun s => (fB s).map fun q => (q, s)) (fun s => by rw [e1]; cases fN s <;> rfl) (fun s => by rw [e2]; cases fB s <;> rfl) (fun s h => by rw [e3]; cases fB s <;> rfl)
    (fun s h => by obtain ⟨r, sm', a, b, c⟩ := hN s h; exact ⟨r, s, sm', by rw [a]; rfl, b, c⟩) (fun s kc vc h => by obtain ⟨r, sm', a, b, c, d⟩ := hB s kc vc h; exact ⟨r, s, sm', by rw [a]; rfl, b, c, d⟩) hR
theorem RTape.sc {tp : TpT} {sm sm' : MoT} (h : RTape tp sm) (e : SC sm sm') : RTape tp sm' := by
  obtain ⟨⟨t, a1, a2, a3⟩, a4⟩ := h
  exact ⟨⟨t, a1, a2, by rw [e.2.2.1]; exact a3⟩, fun i hi => by rw [e.2.1]; exact a4 i hi⟩
theorem RN.sc {s : OuNT} {sm sm' : MoT} {tr : Int32} (h : RN s sm) (e : SC sm sm') (ht : Mo_trouble sm' = tr) (hw : Mo_wrongAt sm' = m1) (h4 : tr ≠ nI 4) : RN (OuN_w_trouble s tr) sm' :=
  ⟨h.1.sc e, ⟨ht, by rw [e.2.2.2.2.2]; exact h.2.1.2.1, by rw [hw, if_neg h4]⟩, h.2.2.1, by rw [e.2.2.2.1]; exact h.2.2.2.1, by rw [e.2.2.2.2.1]; exact h.2.2.2.2⟩
/-- a call that answers and changes nothing else in the desk -/
theorem RB.rd {n kc vc : Nat} {s : OuBT} {sm sm' : MoT} {tr : Int32} (h : RB n kc vc s sm) (e : SC sm sm') (hx : ∀ i, i < 6571 → Mo_x sm' i = Mo_x sm i) (ht : Mo_trouble sm' = tr) (hw : Mo_wrongAt sm' = m1) (h4 : tr ≠ nI 4) : RB (n + 1) kc vc (OuB_w_trouble s tr) sm' := by
  obtain ⟨h1, h2, h3, T, h5, h6⟩ := h
  refine ⟨h1.sc e, ⟨ht, by rw [e.2.2.2.2.2]; exact h2.2.1, by rw [hw, if_neg h4]⟩, by rw [e.2.2.2.1]; exact h3, T, by omega, ?_⟩
  rw [e.1]
  exact (h6.bank (fun i _ h2 => hx i (by omega))).mono (by omega)
theorem r_good (sm : MoT) (v : Int32) : f_X9_good sm v = some (v, mG sm) := rfl
theorem r_ref (sm : MoT) (w : Int32) : f_X9_refused sm w = some (-1, mR sm w) := rfl
theorem r_refL (sm : MoT) (w : Int32) : f_X9_refusedLow sm w = some (-2147483648, mR sm w) := rfl
theorem tr1 : (1 : Int32) ≠ nI 4 := by decide
theorem tr2 : (2 : Int32) ≠ nI 4 := by decide
theorem tr0 : (0 : Int32) ≠ nI 4 := by decide
theorem SC.mR (sm : MoT) (w : Int32) : SC sm (mR (mT sm) w) := ⟨(words_mR _ _).trans (words_mT _), (tape_mR _ _).trans (tape_mT _), (taped_mR _ _).trans (taped_mT _), (isThere_mR _ _).trans (isThere_mT _), (hasImage_mR _ _).trans (hasImage_mT _), (fault_mR _ _).trans (fault_mT _)⟩
theorem SC.mG {sm sm' : MoT} (h : SC sm sm') : SC sm (mG sm') := ⟨(words_mG _).trans h.1, (tape_mG _).trans h.2.1, (taped_mG _).trans h.2.2.1, (isThere_mG _).trans h.2.2.2.1, (hasImage_mG _).trans h.2.2.2.2.1, (fault_mG _).trans h.2.2.2.2.2⟩
theorem SC.mT (sm : MoT) : SC sm (mT sm) := ⟨words_mT _, tape_mT _, taped_mT _, isThere_mT _, hasImage_mT _, fault_mT _⟩
theorem SC.mo {sm sm' : MoT} (h : SC sm sm') (x : Nat → Int32) : SC sm (mo sm' x) := ⟨(q_words_x _ _).trans h.1, (q_tape_x _ _).trans h.2.1, (q_taped_x _ _).trans h.2.2.1, (q_isThere_x _ _).trans h.2.2.2.1, (q_hasImage_x _ _).trans h.2.2.2.2.1, (q_fault_x _ _).trans h.2.2.2.2.2⟩
theorem RN.ref {s : OuNT} {sm : MoT} {w : Int32} (h : RN s sm) (hw : w ≠ nI 4) : RN (OuN_w_trouble s w) (mR (mT sm) w) := h.sc (SC.mR sm w) (trouble_mR _ _) (wrongAt_mR _ _) hw
theorem RB.ref {n kc vc : Nat} {s : OuBT} {sm : MoT} {w : Int32} (h : RB n kc vc s sm) (hw : w ≠ nI 4) : RB (n + 1) kc vc (OuB_w_trouble s w) (mR (mT sm) w) ∧ KS s sm (OuB_w_trouble s w) (mR (mT sm) w) := ⟨h.rd (SC.mR sm w) (fun i _ => congrFun ((x_mR _ _).trans (x_mT _)) i) (trouble_mR _ _) (wrongAt_mR _ _) hw, rfl, (SC.mR sm w).2.2.2.2.1, (SC.mR sm w).1, fun i _ _ => congrFun ((x_mR _ _).trans (x_mT _)) i⟩
theorem RB.good {n kc vc : Nat} {s : OuBT} {sm : MoT} (h : RB n kc vc s sm) : RB (n + 1) kc vc (OuB_w_trouble s 0) (mG (mT sm)) ∧ KS s sm (OuB_w_trouble s 0) (mG (mT sm)) := ⟨h.rd (SC.mT sm).mG (fun i _ => congrFun ((x_mG _).trans (x_mT _)) i) (trouble_mG _) (wrongAt_mG _) tr0, rfl, (SC.mT sm).mG.2.2.2.2.1, (SC.mT sm).mG.1, fun i _ _ => congrFun ((x_mG _).trans (x_mT _)) i⟩
/-- one call's fact -/
def StpR (n : Nat) (fc : CS → Option (Int32 × CS)) (fm : MoT → Option (Int32 × MoT)) : Prop := n < 512 → ∀ cs sm, Rel n cs sm → ∃ r cs' sm', fc cs = some (r, cs') ∧ fm sm = some (r, sm') ∧ Rel (n + 1) cs' sm'
theorem mx (sm : MoT) : mo sm (Mo_x sm) = sm := rfl
theorem mxT (sm : MoT) : mT sm = mo (mT sm) (Mo_x sm) := rfl
theorem stp1 {n : Nat} {fc : CS → Option (Int32 × CS)} {fN : OuNT → Option (Int32 × OuNT)} {fB : OuBT → Option (Int32 × OuBT)} {fm : MoT → Option (Int32 × MoT)}
    (e1 : ∀ s, fc (.inl s) = (fN s).map fun q => (q.1, csN q.2)) (e2 : ∀ s, fc (.inr (.inl s)) = (fB s).map fun q => (q.1, csB q.2)) (e3 : ∀ s h, fc (.inr (.inr (s, h))) = (fB s).map fun q => (q.1, csS q.2 h))
    (hN : ∀ sm s, RN s sm → ∃ r s' sm', fN s = some (r, s') ∧ fm sm = some (r, sm') ∧ RN s' sm')
    (hB : n < 512 → ∀ sm s kc vc, RB n kc vc s sm → ∃ r s' sm', fB s = some (r, s') ∧ fm sm = some (r, sm') ∧ RB (n + 1) kc vc s' sm' ∧ KS s sm s' sm') : StpR n fc fm := fun hn _ sm hR => lift1 e1 e2 e3 (hN sm) (hB hn sm) hR
theorem stp0 {n : Nat} {fc : CS → Option (Int32 × CS)} {fN : OuNT → Option Int32} {fB : OuBT → Option Int32} {fm : MoT → Option (Int32 × MoT)}
    (e1 : ∀ s, fc (.inl s) = (fN s).map fun q => (q, csN s)) (e2 : ∀ s, fc (.inr (.inl s)) = (fB s).map fun q => (q, csB s)) (e3 : ∀ s h, fc (.inr (.inr (s, h))) = (fB s).map fun q => (q, csS s h))
    (hN : ∀ sm s, RN s sm → ∃ r sm', fN s = some r ∧ fm sm = some (r, sm') ∧ RN s sm')
    (hB : n < 512 → ∀ sm s kc vc, RB n kc vc s sm → ∃ r sm', fB s = some r ∧ fm sm = some (r, sm') ∧ RB (n + 1) kc vc s sm' ∧ KS s sm s sm') : StpR n fc fm := fun hn _ sm hR => lift0 e1 e2 e3 (hN sm) (hB hn sm) hR
