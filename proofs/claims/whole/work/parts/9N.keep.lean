/-! the desk kept, and gone back to -/
def cpX (x : Nat → Int32) (a b n : Nat) : Nat → Int32 := fun i => if 6571 * a ≤ i ∧ i < 6571 * a + n then x (i - 6571 * a + 6571 * b) else x i
theorem r_copies (sm : MoT) (x : Nat → Int32) {a b : Nat} (ha : a < 3) (hb : b < 3) (hab : a ≠ b) : f_X9_copies (mo sm x) (nI a) (nI b) = some (mo sm (cpX x a b 6571)) := by
  unfold f_X9_copies
  rw [glE, li_0]
  have e0 : x = cpX x a b 0 := by
    funext i
    unfold cpX
    rw [if_neg (by omega)]
  have main := lpc (L := fun n i t => f_X9_copies_L2_5 (nI a) (nI b) (fun s => some s) n i t) (K := fun s => some s) 6571 (fun i => mo sm (cpX x a b i)) (fuel := 10000) ?_ ?_ (by omega)
  · have main' : f_X9_copies_L2_5 (nI a) (nI b) (fun s => some s) 10000 (nI 0) (mo sm (cpX x a b 0)) = some (mo sm (cpX x a b 6571)) := main
    rw [← e0] at main'
    exact main'
  · intro n
    show f_X9_copies_L2_5 (nI a) (nI b) (fun s => some s) (n + 1) (nI 6571) _ = _
    rw [f_X9_copies_L2_5]
    exact if_pos (Int32.le_refl _)
  · intro n i hi
    have i1 : (6571 : Int32) * nI a + nI i = nI (6571 * a + i) := by
      simp (disch := omega) only [li_0, li_1, li_2, li_3, li_4, li_5, li_6, li_7, li_8, li_9, li_10, li_11, li_12, li_13, li_14, li_15, li_16, li_20, li_30, li_31, li_32, li_40, li_42, li_45, li_48, li_57, li_58, li_59, li_60, li_64, li_74, li_75, li_81, li_97, li_122, li_124, li_143, li_151, li_159, li_167, li_175, li_200, li_255, li_648, li_650, li_823, li_900, li_999, li_1123, li_1298, li_1363, li_1379, li_2592, li_6571, li_9999, li_65536, li_65537, ng1, ng2, nI_add, pk_mul, remN, divN, inbI, ixN, leN, ltN, eqN, m1E, m1E', m2E, m12, m21, bsm, glE, b2iT, b2iF, if_pos, if_neg, ite_true, ite_false, not_true, not_false_iff, reduceCtorEq]
    have i2 : (6571 : Int32) * nI b + nI i = nI (6571 * b + i) := by
      simp (disch := omega) only [li_0, li_1, li_2, li_3, li_4, li_5, li_6, li_7, li_8, li_9, li_10, li_11, li_12, li_13, li_14, li_15, li_16, li_20, li_30, li_31, li_32, li_40, li_42, li_45, li_48, li_57, li_58, li_59, li_60, li_64, li_74, li_75, li_81, li_97, li_122, li_124, li_143, li_151, li_159, li_167, li_175, li_200, li_255, li_648, li_650, li_823, li_900, li_999, li_1123, li_1298, li_1363, li_1379, li_2592, li_6571, li_9999, li_65536, li_65537, ng1, ng2, nI_add, pk_mul, remN, divN, inbI, ixN, leN, ltN, eqN, m1E, m1E', m2E, m12, m21, bsm, glE, b2iT, b2iF, if_pos, if_neg, ite_true, ite_false, not_true, not_false_iff, reduceCtorEq]
    have e1 : upd (cpX x a b i) (6571 * a + i) (cpX x a b i (6571 * b + i)) = cpX x a b (i + 1) := by
      funext j
      by_cases q : j = 6571 * a + i
      · rw [ue q]
        unfold cpX
        rw [if_neg (by omega), if_pos (by omega)]
        congr 1
        omega
      · rw [un q]
        unfold cpX
        by_cases g : 6571 * a ≤ j ∧ j < 6571 * a + i
        · rw [if_pos g, if_pos (by omega)]
        · rw [if_neg g, if_neg (by omega)]
    show f_X9_copies_L2_5 (nI a) (nI b) (fun s => some s) (n + 1) (nI i) (mo sm (cpX x a b i)) = f_X9_copies_L2_5 (nI a) (nI b) (fun s => some s) n (nI (i + 1)) (mo sm (cpX x a b (i + 1)))
    rw [f_X9_copies_L2_5, i1, i2, show nI i + (1 : Int32) = nI (i + 1) from nI_1 i, ixN (by omega), ixN (by omega), mo_x, mo_mo, e1]
    exact (if_neg (nI_ge hi (by omega) : ¬ nI 6571 ≤ nI i)).trans ((if_pos (inbN (by omega) (by omega))).trans (if_pos (inbN (by omega) (by omega))))
/-- two books alike in all that is looked at -/
def BkE (s t : BkT) : Prop :=
  (Wd_count (Bk_keys s) = Wd_count (Bk_keys t) ∧ ∀ k, k < 8 → Wd_packs (Bk_keys s) k = Wd_packs (Bk_keys t) k) ∧ (Wd_count (Bk_values s) = Wd_count (Bk_values t) ∧ ∀ k, k < 8 → Wd_packs (Bk_values s) k = Wd_packs (Bk_values t) k) ∧
  ((∀ i, i < 128 → Bd_nets (Bk_board s) i = Bd_nets (Bk_board t) i) ∧ (∀ i, i < 648 → Bd_sums (Bk_board s) i = Bd_sums (Bk_board t) i) ∧ (∀ i, i < 16 → Bd_turns (Bk_board s) i = Bd_turns (Bk_board t) i) ∧ Bd_how (Bk_board s) = Bd_how (Bk_board t)) ∧
  ((∀ i, i < 60 → Lg_places (Bd_ledger (Bk_board s)) i = Lg_places (Bd_ledger (Bk_board t)) i) ∧ (∀ i, i < 60 → Lg_amounts (Bd_ledger (Bk_board s)) i = Lg_amounts (Bd_ledger (Bk_board t)) i) ∧ (∀ i, i < 60 → Lg_numbers (Bd_ledger (Bk_board s)) i = Lg_numbers (Bd_ledger (Bk_board t)) i) ∧ (∀ i, i < 8 → Lg_byKey (Bd_ledger (Bk_board s)) i = Lg_byKey (Bd_ledger (Bk_board t)) i) ∧
    Lg_total (Bd_ledger (Bk_board s)) = Lg_total (Bd_ledger (Bk_board t)) ∧ Lg_came (Bd_ledger (Bk_board s)) = Lg_came (Bd_ledger (Bk_board t)) ∧ Lg_went (Bd_ledger (Bk_board s)) = Lg_went (Bd_ledger (Bk_board t)) ∧ Lg_acts (Bd_ledger (Bk_board s)) = Lg_acts (Bd_ledger (Bk_board t)) ∧ Lg_most (Bd_ledger (Bk_board s)) = Lg_most (Bd_ledger (Bk_board t)) ∧ Lg_actOfMost (Bd_ledger (Bk_board s)) = Lg_actOfMost (Bd_ledger (Bk_board t))) ∧
  ((∀ i, i < 60 → St_sides (Bk_store s) i = St_sides (Bk_store t) i) ∧ (∀ i, i < 60 → St_keys (Bk_store s) i = St_keys (Bk_store t) i) ∧ (∀ i, i < 60 → St_values (Bk_store s) i = St_values (Bk_store t) i) ∧ (∀ i, i < 60 → St_manies (Bk_store s) i = St_manies (Bk_store t) i) ∧ St_count (Bk_store s) = St_count (Bk_store t)) ∧
  ((∀ i, i < 4 → Sb_seen (Bk_subscribers s) i = Sb_seen (Bk_subscribers t) i) ∧ (∀ i, i < 2592 → Sb_holds (Bk_subscribers s) i = Sb_holds (Bk_subscribers t) i) ∧ (∀ i, i < 2592 → Sb_differences (Bk_subscribers s) i = Sb_differences (Bk_subscribers t) i)) ∧
  (∀ i, i < 8 → Bk_latest s i = Bk_latest t i) ∧ (∀ i, i < 8 → Bk_lapses s i = Bk_lapses t i) ∧ Bk_keep s = Bk_keep t ∧ Bk_late s = Bk_late t ∧ Bk_clock s = Bk_clock t ∧ Bk_tooLate s = Bk_tooLate t ∧ Bk_lapsed s = Bk_lapsed t
theorem cpI {A : Type} (f g : Nat → A) (n : Nat) (hn : n < 2147483648) : ∀ i, i < n → va_cpy f g (ix (0 : Int32)) (ix (0 : Int32)) (ix (nI n)) i = f i := fun i hi => by
  unfold va_cpy
  have e0 : ix (0 : Int32) = 0 := rfl
  rw [ixN hn, e0, if_pos (by omega)]
  congr 1
  omega
set_option maxRecDepth 4000 in
theorem c_copy (s t : BkT) : ∃ r, f_X1_copyFrom s t = some r ∧ BkE r t := by
  have w : ∀ a b : WdT, f_X7_copyFrom a b = some (Wd_w_count (Wd_w_packs a (va_cpy (Wd_packs b) (Wd_packs a) (ix (0 : Int32)) (ix (0 : Int32)) (ix (8 : Int32)))) (Wd_count b)) := fun a b => if_pos (by decide)
  have lgc : ∀ a b : LgT, ∃ r, f_X2_copyFrom a b = some r ∧ ((∀ i, i < 60 → Lg_places r i = Lg_places b i) ∧ (∀ i, i < 60 → Lg_amounts r i = Lg_amounts b i) ∧ (∀ i, i < 60 → Lg_numbers r i = Lg_numbers b i) ∧ (∀ i, i < 8 → Lg_byKey r i = Lg_byKey b i) ∧ Lg_total r = Lg_total b ∧ Lg_came r = Lg_came b ∧ Lg_went r = Lg_went b ∧ Lg_acts r = Lg_acts b ∧ Lg_most r = Lg_most b ∧ Lg_actOfMost r = Lg_actOfMost b) := fun a b =>
    ⟨_, (if_pos (by decide)).trans ((if_pos (by decide)).trans ((if_pos (by decide)).trans (if_pos (by decide)))), cpI _ _ 60 (by omega), cpI _ _ 60 (by omega), cpI _ _ 60 (by omega), cpI _ _ 8 (by omega), rfl, rfl, rfl, rfl, rfl, rfl⟩
  have stc : ∀ a b : StT, ∃ r, f_X4_copyFrom a b = some r ∧ ((∀ i, i < 60 → St_sides r i = St_sides b i) ∧ (∀ i, i < 60 → St_keys r i = St_keys b i) ∧ (∀ i, i < 60 → St_values r i = St_values b i) ∧ (∀ i, i < 60 → St_manies r i = St_manies b i) ∧ St_count r = St_count b) := fun a b =>
    ⟨_, (if_pos (by decide)).trans ((if_pos (by decide)).trans ((if_pos (by decide)).trans (if_pos (by decide)))), cpI _ _ 60 (by omega), cpI _ _ 60 (by omega), cpI _ _ 60 (by omega), cpI _ _ 60 (by omega), rfl⟩
  have sbc : ∀ a b : SbT, ∃ r, f_X5_copyFrom a b = some r ∧ ((∀ i, i < 4 → Sb_seen r i = Sb_seen b i) ∧ (∀ i, i < 2592 → Sb_holds r i = Sb_holds b i) ∧ (∀ i, i < 2592 → Sb_differences r i = Sb_differences b i)) := fun a b =>
    ⟨_, (if_pos (by decide)).trans ((if_pos (by decide)).trans (if_pos (by decide))), cpI _ _ 4 (by omega), cpI _ _ 2592 (by omega), cpI _ _ 2592 (by omega)⟩
  obtain ⟨l, l1, l2⟩ := lgc (Bd_ledger (Bk_board s)) (Bd_ledger (Bk_board t))
  have bdc : ∃ r, f_X0_copyFrom (Bk_board s) (Bk_board t) = some r ∧ ((∀ i, i < 128 → Bd_nets r i = Bd_nets (Bk_board t) i) ∧ (∀ i, i < 648 → Bd_sums r i = Bd_sums (Bk_board t) i) ∧ (∀ i, i < 16 → Bd_turns r i = Bd_turns (Bk_board t) i) ∧ Bd_how r = Bd_how (Bk_board t)) ∧ Bd_ledger r = l :=
    ⟨_, (if_pos (by decide)).trans ((if_pos (by decide)).trans ((if_pos (by decide)).trans (eb l1 rfl))), ⟨cpI _ _ 128 (by omega), cpI _ _ 648 (by omega), cpI _ _ 16 (by omega), rfl⟩, rfl⟩
  obtain ⟨bd, d1, d2, d3⟩ := bdc
  obtain ⟨st, t1, t2⟩ := stc (Bk_store s) (Bk_store t)
  obtain ⟨sb, u1, u2⟩ := sbc (Bk_subscribers s) (Bk_subscribers t)
  refine ⟨_, eb (w _ _) (eb (w _ _) (eb d1 (eb t1 (eb u1 ((if_pos (by decide)).trans (if_pos (by decide))))))), ⟨rfl, cpI _ _ 8 (by omega)⟩, ⟨rfl, cpI _ _ 8 (by omega)⟩, d2, ?_, t2, u2, cpI _ _ 8 (by omega), cpI _ _ 8 (by omega), rfl, rfl, rfl, rfl, rfl⟩
  show _ ∧ _
  have d3' : Bd_ledger bd = l := d3
  subst d3'
  exact l2
