/-! all rows, looked through -/
theorem q_x_sumSent (s : MoT) (v : Int32) : Mo_x (Mo_w_sumSent s v) = Mo_x s := rfl
theorem q_words_sumSent (s : MoT) (v : Int32) : Mo_words (Mo_w_sumSent s v) = Mo_words s := rfl
theorem q_tape_sumSent (s : MoT) (v : Int32) : Mo_tape (Mo_w_sumSent s v) = Mo_tape s := rfl
theorem q_taped_sumSent (s : MoT) (v : Int32) : Mo_taped (Mo_w_sumSent s v) = Mo_taped s := rfl
theorem q_isThere_sumSent (s : MoT) (v : Int32) : Mo_isThere (Mo_w_sumSent s v) = Mo_isThere s := rfl
theorem q_hasImage_sumSent (s : MoT) (v : Int32) : Mo_hasImage (Mo_w_sumSent s v) = Mo_hasImage s := rfl
theorem q_fault_sumSent (s : MoT) (v : Int32) : Mo_fault (Mo_w_sumSent s v) = Mo_fault s := rfl
theorem q_trouble_sumSent (s : MoT) (v : Int32) : Mo_trouble (Mo_w_sumSent s v) = Mo_trouble s := rfl
theorem q_wrongAt_sumSent (s : MoT) (v : Int32) : Mo_wrongAt (Mo_w_sumSent s v) = Mo_wrongAt s := rfl
theorem q_sumSent_sumSent (s : MoT) (v : Int32) : Mo_sumSent (Mo_w_sumSent s v) = v := rfl
theorem q_foundKey_sumSent (s : MoT) (v : Int32) : Mo_foundKey (Mo_w_sumSent s v) = Mo_foundKey s := rfl
theorem q_foundLeft_sumSent (s : MoT) (v : Int32) : Mo_foundLeft (Mo_w_sumSent s v) = Mo_foundLeft s := rfl
theorem q_foundRight_sumSent (s : MoT) (v : Int32) : Mo_foundRight (Mo_w_sumSent s v) = Mo_foundRight s := rfl
theorem q_x_foundKey (s : MoT) (v : Int32) : Mo_x (Mo_w_foundKey s v) = Mo_x s := rfl
theorem q_words_foundKey (s : MoT) (v : Int32) : Mo_words (Mo_w_foundKey s v) = Mo_words s := rfl
theorem q_tape_foundKey (s : MoT) (v : Int32) : Mo_tape (Mo_w_foundKey s v) = Mo_tape s := rfl
theorem q_taped_foundKey (s : MoT) (v : Int32) : Mo_taped (Mo_w_foundKey s v) = Mo_taped s := rfl
theorem q_isThere_foundKey (s : MoT) (v : Int32) : Mo_isThere (Mo_w_foundKey s v) = Mo_isThere s := rfl
theorem q_hasImage_foundKey (s : MoT) (v : Int32) : Mo_hasImage (Mo_w_foundKey s v) = Mo_hasImage s := rfl
theorem q_fault_foundKey (s : MoT) (v : Int32) : Mo_fault (Mo_w_foundKey s v) = Mo_fault s := rfl
theorem q_trouble_foundKey (s : MoT) (v : Int32) : Mo_trouble (Mo_w_foundKey s v) = Mo_trouble s := rfl
theorem q_wrongAt_foundKey (s : MoT) (v : Int32) : Mo_wrongAt (Mo_w_foundKey s v) = Mo_wrongAt s := rfl
theorem q_sumSent_foundKey (s : MoT) (v : Int32) : Mo_sumSent (Mo_w_foundKey s v) = Mo_sumSent s := rfl
theorem q_foundKey_foundKey (s : MoT) (v : Int32) : Mo_foundKey (Mo_w_foundKey s v) = v := rfl
theorem q_foundLeft_foundKey (s : MoT) (v : Int32) : Mo_foundLeft (Mo_w_foundKey s v) = Mo_foundLeft s := rfl
theorem q_foundRight_foundKey (s : MoT) (v : Int32) : Mo_foundRight (Mo_w_foundKey s v) = Mo_foundRight s := rfl
theorem q_x_foundLeft (s : MoT) (v : Int32) : Mo_x (Mo_w_foundLeft s v) = Mo_x s := rfl
theorem q_words_foundLeft (s : MoT) (v : Int32) : Mo_words (Mo_w_foundLeft s v) = Mo_words s := rfl
theorem q_tape_foundLeft (s : MoT) (v : Int32) : Mo_tape (Mo_w_foundLeft s v) = Mo_tape s := rfl
theorem q_taped_foundLeft (s : MoT) (v : Int32) : Mo_taped (Mo_w_foundLeft s v) = Mo_taped s := rfl
theorem q_isThere_foundLeft (s : MoT) (v : Int32) : Mo_isThere (Mo_w_foundLeft s v) = Mo_isThere s := rfl
theorem q_hasImage_foundLeft (s : MoT) (v : Int32) : Mo_hasImage (Mo_w_foundLeft s v) = Mo_hasImage s := rfl
theorem q_fault_foundLeft (s : MoT) (v : Int32) : Mo_fault (Mo_w_foundLeft s v) = Mo_fault s := rfl
theorem q_trouble_foundLeft (s : MoT) (v : Int32) : Mo_trouble (Mo_w_foundLeft s v) = Mo_trouble s := rfl
theorem q_wrongAt_foundLeft (s : MoT) (v : Int32) : Mo_wrongAt (Mo_w_foundLeft s v) = Mo_wrongAt s := rfl
theorem q_sumSent_foundLeft (s : MoT) (v : Int32) : Mo_sumSent (Mo_w_foundLeft s v) = Mo_sumSent s := rfl
theorem q_foundKey_foundLeft (s : MoT) (v : Int32) : Mo_foundKey (Mo_w_foundLeft s v) = Mo_foundKey s := rfl
theorem q_foundLeft_foundLeft (s : MoT) (v : Int32) : Mo_foundLeft (Mo_w_foundLeft s v) = v := rfl
theorem q_foundRight_foundLeft (s : MoT) (v : Int32) : Mo_foundRight (Mo_w_foundLeft s v) = Mo_foundRight s := rfl
theorem q_x_foundRight (s : MoT) (v : Int32) : Mo_x (Mo_w_foundRight s v) = Mo_x s := rfl
theorem q_words_foundRight (s : MoT) (v : Int32) : Mo_words (Mo_w_foundRight s v) = Mo_words s := rfl
theorem q_tape_foundRight (s : MoT) (v : Int32) : Mo_tape (Mo_w_foundRight s v) = Mo_tape s := rfl
theorem q_taped_foundRight (s : MoT) (v : Int32) : Mo_taped (Mo_w_foundRight s v) = Mo_taped s := rfl
theorem q_isThere_foundRight (s : MoT) (v : Int32) : Mo_isThere (Mo_w_foundRight s v) = Mo_isThere s := rfl
theorem q_hasImage_foundRight (s : MoT) (v : Int32) : Mo_hasImage (Mo_w_foundRight s v) = Mo_hasImage s := rfl
theorem q_fault_foundRight (s : MoT) (v : Int32) : Mo_fault (Mo_w_foundRight s v) = Mo_fault s := rfl
theorem q_trouble_foundRight (s : MoT) (v : Int32) : Mo_trouble (Mo_w_foundRight s v) = Mo_trouble s := rfl
theorem q_wrongAt_foundRight (s : MoT) (v : Int32) : Mo_wrongAt (Mo_w_foundRight s v) = Mo_wrongAt s := rfl
theorem q_sumSent_foundRight (s : MoT) (v : Int32) : Mo_sumSent (Mo_w_foundRight s v) = Mo_sumSent s := rfl
theorem q_foundKey_foundRight (s : MoT) (v : Int32) : Mo_foundKey (Mo_w_foundRight s v) = Mo_foundKey s := rfl
theorem q_foundLeft_foundRight (s : MoT) (v : Int32) : Mo_foundLeft (Mo_w_foundRight s v) = Mo_foundLeft s := rfl
theorem q_foundRight_foundRight (s : MoT) (v : Int32) : Mo_foundRight (Mo_w_foundRight s v) = v := rfl
def mF (s : MoT) (k l r v : Int32) : MoT := Mo_w_sumSent (Mo_w_foundRight (Mo_w_foundLeft (Mo_w_foundKey s k) l) r) v
theorem SC.mF {sm s : MoT} (h : SC sm s) (k l r v : Int32) : SC sm (mF s k l r v) := ⟨((((q_words_sumSent _ _).trans (q_words_foundRight _ _)).trans (q_words_foundLeft _ _)).trans (q_words_foundKey _ _)).trans h.1, ((((q_tape_sumSent _ _).trans (q_tape_foundRight _ _)).trans (q_tape_foundLeft _ _)).trans (q_tape_foundKey _ _)).trans h.2.1, ((((q_taped_sumSent _ _).trans (q_taped_foundRight _ _)).trans (q_taped_foundLeft _ _)).trans (q_taped_foundKey _ _)).trans h.2.2.1, ((((q_isThere_sumSent _ _).trans (q_isThere_foundRight _ _)).trans (q_isThere_foundLeft _ _)).trans (q_isThere_foundKey _ _)).trans h.2.2.2.1, ((((q_hasImage_sumSent _ _).trans (q_hasImage_foundRight _ _)).trans (q_hasImage_foundLeft _ _)).trans (q_hasImage_foundKey _ _)).trans h.2.2.2.2.1, ((((q_fault_sumSent _ _).trans (q_fault_foundRight _ _)).trans (q_fault_foundLeft _ _)).trans (q_fault_foundKey _ _)).trans h.2.2.2.2.2⟩
theorem SC.mS {sm s : MoT} (h : SC sm s) (v : Int32) : SC sm (Mo_w_sumSent s v) := ⟨(q_words_sumSent _ _).trans h.1, (q_tape_sumSent _ _).trans h.2.1, (q_taped_sumSent _ _).trans h.2.2.1, (q_isThere_sumSent _ _).trans h.2.2.2.1, (q_hasImage_sumSent _ _).trans h.2.2.2.2.1, (q_fault_sumSent _ _).trans h.2.2.2.2.2⟩
theorem x_mF (s : MoT) (k l r v : Int32) : Mo_x (mF s k l r v) = Mo_x s := ((((q_x_sumSent _ _).trans (q_x_foundRight _ _)).trans (q_x_foundLeft _ _)).trans (q_x_foundKey _ _))
theorem k_mF (s : MoT) (k l r v : Int32) : Mo_foundKey (mF s k l r v) = k := ((((q_foundKey_sumSent _ _).trans (q_foundKey_foundRight _ _)).trans (q_foundKey_foundLeft _ _)).trans (q_foundKey_foundKey _ _))
theorem l_mF (s : MoT) (k l r v : Int32) : Mo_foundLeft (mF s k l r v) = l := (((q_foundLeft_sumSent _ _).trans (q_foundLeft_foundRight _ _)).trans (q_foundLeft_foundLeft _ _))
theorem r_mF (s : MoT) (k l r v : Int32) : Mo_foundRight (mF s k l r v) = r := ((q_foundRight_sumSent _ _).trans (q_foundRight_foundRight _ _))
theorem s_mF (s : MoT) (k l r v : Int32) : Mo_sumSent (mF s k l r v) = v := (q_sumSent_sumSent _ _)
def sumS (S : Nat → Int32) (n : Nat) : Int32 := itr (fun p a => a + S p) (nI 0) n
/-- rows up to place q are looked through -/
def FI (sm : MoT) (x S : Nat → Int32) (p2 : Int32) (q : Nat) (s : MoT) : Prop :=
  SC sm s ∧ Mo_x s = x ∧ Mo_sumSent s = sumS S q ∧ ∀ i r, p2 = nI i → r < q → S r ≠ nI 0 → pre S r = i → Mo_foundKey s = nI (r / 81) ∧ Mo_foundLeft s = nI (r / 9 % 9) ∧ Mo_foundRight s = nI (r % 9)
theorem FI.step {sm s : MoT} {x S : Nat → Int32} {p2 : Int32} {k l r : Nat} (hk : k < 8) (hl : l < 9) (hr : r < 9) (h : FI sm x S p2 (81 * k + 9 * l + r) s) :
    FI sm x S p2 (81 * k + 9 * l + r + 1) (if S (81 * k + 9 * l + r) = nI 0 then s else if nI (pre S (81 * k + 9 * l + r)) = p2 then mF s (nI k) (nI l) (nI r) (Mo_sumSent s + S (81 * k + 9 * l + r)) else Mo_w_sumSent s (Mo_sumSent s + S (81 * k + 9 * l + r))) := by
  obtain ⟨h1, h2, h3, h4⟩ := h
  have es : sumS S (81 * k + 9 * l + r + 1) = sumS S (81 * k + 9 * l + r) + S (81 * k + 9 * l + r) := rfl
  have d1 : (81 * k + 9 * l + r) / 81 = k := by omega
  have d2 : (81 * k + 9 * l + r) / 9 % 9 = l := by omega
  have d3 : (81 * k + 9 * l + r) % 9 = r := by omega
  have lt := pre_le S (81 * k + 9 * l + r)
  by_cases z : S (81 * k + 9 * l + r) = nI 0
  · rw [if_pos z]
    refine ⟨h1, h2, by rw [es, z, z1]; exact h3, fun i r' e1 e2 e3 e4 => ?_⟩
    by_cases q : r' = 81 * k + 9 * l + r
    · subst q
      exact absurd z e3
    · exact h4 i r' e1 (by omega) e3 e4
  · rw [if_neg z]
    by_cases y : nI (pre S (81 * k + 9 * l + r)) = p2
    · rw [if_pos y]
      refine ⟨h1.mF _ _ _ _, (x_mF _ _ _ _ _).trans h2, by rw [s_mF, es, h3], fun i r' e1 e2 e3 e4 => ?_⟩
      rw [k_mF, l_mF, r_mF]
      by_cases q : r' = 81 * k + 9 * l + r
      · rw [q, d1, d2, d3]
        exact ⟨rfl, rfl, rfl⟩
      · exfalso
        have p1 := pre_lt (f := S) (r := r') (n := 81 * k + 9 * l + r) (by omega) e3
        rw [e1] at y
        have := (nI_eq (a := pre S (81 * k + 9 * l + r)) (b := i) (by omega) (by omega)).mp y
        omega
    · rw [if_neg y]
      refine ⟨h1.mS _, (q_x_sumSent _ _).trans h2, by rw [q_sumSent_sumSent, es, h3], fun i r' e1 e2 e3 e4 => ?_⟩
      rw [q_foundKey_sumSent, q_foundLeft_sumSent, q_foundRight_sumSent]
      by_cases q : r' = 81 * k + 9 * l + r
      · exfalso
        rw [q] at e4
        rw [e1, e4] at y
        exact y rfl
      · exact h4 i r' e1 (by omega) e3 e4
theorem finds2 {sm : MoT} {x S : Nat → Int32} {b : Nat} (p2 : Int32) (hb : b < 3) (hx : Mo_x sm = x) (hS : ∀ s, Mo_x s = x → ∀ k l r, k < 8 → l < 9 → r < 9 → (l < 8 ∨ r < 8) → f_X9_sentOf s (nI b) (nI k) (nI l) (nI r) = some (S (81 * k + 9 * l + r))) (h88 : ∀ k, k < 8 → S (81 * k + 80) = nI 0) :
    ∃ s', f_X9_finds sm (nI b) p2 = some (nI (pre S 648), s') ∧ FI sm x S p2 648 s' := by
  have inner : ∀ (K : Int32 → MoT → Option (Int32 × MoT)) (k l : Nat), k < 8 → l < 9 → ∀ s, FI sm x S p2 (81 * k + 9 * l) s → ∃ s', FI sm x S p2 (81 * k + 9 * (l + 1)) s' ∧ f_X9_finds_L30_25 (nI b) p2 (nI k) (nI l) K 10000 (nI (pre S (81 * k + 9 * l))) 0 s = K (nI (pre S (81 * k + 9 * (l + 1)))) s' := by
    intro K k l hk hl s hs
    rw [li_0]
    have main := lp (L := fun n i (p : Int32 × MoT) => f_X9_finds_L30_25 (nI b) p2 (nI k) (nI l) K n p.1 i p.2) 9 (fun r p => p.1 = nI (pre S (81 * k + 9 * l + r)) ∧ FI sm x S p2 (81 * k + 9 * l + r) p.2) (fun o => ∃ s', FI sm x S p2 (81 * k + 9 * (l + 1)) s' ∧ o = K (nI (pre S (81 * k + 9 * (l + 1)))) s') ?_ ?_ 10000 0 (nI (pre S (81 * k + 9 * l)), s) (by omega) (by omega) ⟨rfl, hs⟩
    · exact main
    · rintro n ⟨c, t⟩ ⟨e1, e2⟩
      have e1 : c = nI (pre S (81 * k + 9 * l + 9)) := e1
      subst e1
      refine ⟨t, by rw [show 81 * k + 9 * (l + 1) = 81 * k + 9 * l + 9 by omega]; exact e2, ?_⟩
      show f_X9_finds_L30_25 (nI b) p2 (nI k) (nI l) K (n + 1) _ (nI 9) t = _
      rw [f_X9_finds_L30_25, show 81 * k + 9 * (l + 1) = 81 * k + 9 * l + 9 by omega]
      exact if_pos (by decide)
    · rintro n r ⟨c, t⟩ hr ⟨e1, e2⟩
      have e1 : c = nI (pre S (81 * k + 9 * l + r)) := e1
      subst e1
      have ht : Mo_x t = x := e2.2.1
      have es : pre S (81 * k + 9 * l + r + 1) = (if S (81 * k + 9 * l + r) = nI 0 then pre S (81 * k + 9 * l + r) else pre S (81 * k + 9 * l + r) + 1) := rfl
      refine Or.inr ⟨(nI (pre S (81 * k + 9 * l + r + 1)), if S (81 * k + 9 * l + r) = nI 0 then t else if nI (pre S (81 * k + 9 * l + r)) = p2 then mF t (nI k) (nI l) (nI r) (Mo_sumSent t + S (81 * k + 9 * l + r)) else Mo_w_sumSent t (Mo_sumSent t + S (81 * k + 9 * l + r))), ⟨rfl, e2.step hk hl hr⟩, ?_⟩
      show f_X9_finds_L30_25 (nI b) p2 (nI k) (nI l) K (n + 1) (nI (pre S (81 * k + 9 * l + r))) (nI r) t = f_X9_finds_L30_25 (nI b) p2 (nI k) (nI l) K n (nI (pre S (81 * k + 9 * l + r + 1))) (nI (r + 1)) (if S (81 * k + 9 * l + r) = nI 0 then t else if nI (pre S (81 * k + 9 * l + r)) = p2 then mF t (nI k) (nI l) (nI r) (Mo_sumSent t + S (81 * k + 9 * l + r)) else Mo_w_sumSent t (Mo_sumSent t + S (81 * k + 9 * l + r)))
      have tail : ∀ v, v = S (81 * k + 9 * l + r) → (if v = (0 : Int32) then f_X9_finds_L30_25 (nI b) p2 (nI k) (nI l) K n (nI (pre S (81 * k + 9 * l + r))) (nI (r + 1)) t else if nI (pre S (81 * k + 9 * l + r)) = p2 then f_X9_finds_L30_25 (nI b) p2 (nI k) (nI l) K n (nI (pre S (81 * k + 9 * l + r) + 1)) (nI (r + 1)) (Mo_w_sumSent (Mo_w_foundRight (Mo_w_foundLeft (Mo_w_foundKey t (nI k)) (nI l)) (nI r)) ((Mo_sumSent t) + v)) else f_X9_finds_L30_25 (nI b) p2 (nI k) (nI l) K n (nI (pre S (81 * k + 9 * l + r) + 1)) (nI (r + 1)) (Mo_w_sumSent t ((Mo_sumSent t) + v))) = f_X9_finds_L30_25 (nI b) p2 (nI k) (nI l) K n (nI (pre S (81 * k + 9 * l + r + 1))) (nI (r + 1)) (if S (81 * k + 9 * l + r) = nI 0 then t else if nI (pre S (81 * k + 9 * l + r)) = p2 then mF t (nI k) (nI l) (nI r) (Mo_sumSent t + S (81 * k + 9 * l + r)) else Mo_w_sumSent t (Mo_sumSent t + S (81 * k + 9 * l + r))) := by
        intro v hv
        subst hv
        rw [es]
        by_cases z : S (81 * k + 9 * l + r) = nI 0
        · rw [if_pos z, if_pos z]
          exact if_pos z
        · rw [if_neg z, if_neg z]
          by_cases y : nI (pre S (81 * k + 9 * l + r)) = p2
          · simp only [if_pos y]
            exact if_neg z
          · simp only [if_neg y]
            exact if_neg z
      rw [f_X9_finds_L30_25, show nI r + (1 : Int32) = nI (r + 1) from nI_1 r, show nI (pre S (81 * k + 9 * l + r)) + (1 : Int32) = nI (pre S (81 * k + 9 * l + r) + 1) from nI_1 _]
      refine (if_neg (nI_ge hr (by omega))).trans (eg (eg ?_))
      by_cases q : l < 8
      · exact (if_pos (nI_lt (b := 8) q (by omega))).trans (eb (hS t ht k l r hk hl hr (Or.inl q)) (tail _ rfl))
      · by_cases q2 : r < 8
        · exact (if_neg (nI_nlt (b := 8) (by omega) (by omega))).trans ((if_neg (nI_ge (b := 8) q2 (by omega))).trans (eb (hS t ht k l r hk hl hr (Or.inr q2)) (tail _ rfl)))
        · refine (if_neg (nI_nlt (b := 8) (by omega) (by omega))).trans ((if_pos (nI_le (a := 8) (by omega) (by omega))).trans (tail _ ?_))
          rw [show 81 * k + 9 * l + r = 81 * k + 80 by omega, h88 k hk]
          rfl
  have middle : ∀ (K : Int32 → MoT → Option (Int32 × MoT)) (k : Nat), k < 8 → ∀ s, FI sm x S p2 (81 * k) s → ∃ s', FI sm x S p2 (81 * (k + 1)) s' ∧ f_X9_finds_L20_16 (nI b) p2 (nI k) K 10000 (nI (pre S (81 * k))) 0 s = K (nI (pre S (81 * (k + 1)))) s' := by
    intro K k hk s hs
    rw [li_0]
    have main := lp (L := fun n i (p : Int32 × MoT) => f_X9_finds_L20_16 (nI b) p2 (nI k) K n p.1 i p.2) 9 (fun l p => p.1 = nI (pre S (81 * k + 9 * l)) ∧ FI sm x S p2 (81 * k + 9 * l) p.2) (fun o => ∃ s', FI sm x S p2 (81 * (k + 1)) s' ∧ o = K (nI (pre S (81 * (k + 1)))) s') ?_ ?_ 10000 0 (nI (pre S (81 * k)), s) (by omega) (by omega) ⟨rfl, hs⟩
    · exact main
    · rintro n ⟨c, t⟩ ⟨e1, e2⟩
      have e1 : c = nI (pre S (81 * k + 9 * 9)) := e1
      subst e1
      refine ⟨t, by rw [show 81 * (k + 1) = 81 * k + 9 * 9 by omega]; exact e2, ?_⟩
      show f_X9_finds_L20_16 (nI b) p2 (nI k) K (n + 1) _ (nI 9) t = _
      rw [f_X9_finds_L20_16, show 81 * (k + 1) = 81 * k + 9 * 9 by omega]
      exact if_pos (by decide)
    · rintro n l ⟨c, t⟩ hl ⟨e1, e2⟩
      have e1 : c = nI (pre S (81 * k + 9 * l)) := e1
      subst e1
      obtain ⟨s', w1, w2⟩ := inner (fun (x3_20 : Int32) (s0_21 : MoT) => f_X9_finds_L20_16 (nI b) p2 (nI k) K n x3_20 (nI (l + 1)) s0_21) k l hk hl t e2
      refine Or.inr ⟨(nI (pre S (81 * k + 9 * (l + 1))), s'), ⟨rfl, w1⟩, ?_⟩
      show f_X9_finds_L20_16 (nI b) p2 (nI k) K (n + 1) _ (nI l) t = _
      rw [f_X9_finds_L20_16, show nI l + (1 : Int32) = nI (l + 1) from nI_1 l]
      exact (if_neg (nI_ge hl (by omega))).trans (eg w2)
  unfold f_X9_finds
  rw [glE]
  have h0 : FI sm x S p2 0 (Mo_w_sumSent sm 0) := ⟨SC.mS ⟨rfl, rfl, rfl, rfl, rfl, rfl⟩ 0, (q_x_sumSent _ _).trans hx, (q_sumSent_sumSent _ _), fun i r _ hr => absurd hr (Nat.not_lt_zero _)⟩
  have main := lp (L := fun n i (p : Int32 × MoT) => f_X9_finds_L10_7 (nI b) p2 (fun (x3_2 : Int32) (s0_3 : MoT) => some (x3_2, s0_3)) n p.1 i p.2) 8 (fun k p => p.1 = nI (pre S (81 * k)) ∧ FI sm x S p2 (81 * k) p.2) (fun o => ∃ s', o = some (nI (pre S 648), s') ∧ FI sm x S p2 648 s') ?_ ?_ 10000 0 (nI (pre S 0), Mo_w_sumSent sm 0) (by omega) (by omega) ⟨rfl, h0⟩
  · exact main
  · rintro n ⟨c, t⟩ ⟨e1, e2⟩
    have e1 : c = nI (pre S (81 * 8)) := e1
    subst e1
    refine ⟨t, ?_, e2⟩
    show f_X9_finds_L10_7 (nI b) p2 _ (n + 1) _ (nI 8) t = _
    rw [f_X9_finds_L10_7]
    exact if_pos (by decide)
  · rintro n k ⟨c, t⟩ hk ⟨e1, e2⟩
    have e1 : c = nI (pre S (81 * k)) := e1
    subst e1
    obtain ⟨s', w1, w2⟩ := middle (fun (x3_11 : Int32) (s0_12 : MoT) => f_X9_finds_L10_7 (nI b) p2 (fun (x3_2 : Int32) (s0_3 : MoT) => some (x3_2, s0_3)) n x3_11 (nI (k + 1)) s0_12) k hk t e2
    refine Or.inr ⟨(nI (pre S (81 * (k + 1))), s'), ⟨rfl, w1⟩, ?_⟩
    show f_X9_finds_L10_7 (nI b) p2 _ (n + 1) _ (nI k) t = _
    rw [f_X9_finds_L10_7, show nI k + (1 : Int32) = nI (k + 1) from nI_1 k]
    exact (if_neg (nI_ge hk (by omega))).trans (eg w2)

