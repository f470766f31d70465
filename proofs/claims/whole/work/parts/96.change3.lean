theorem RL_fr {b T : Nat} {lg : LgT} {x y : Nat → Int32} (h : RLg b lg x T) (e : ∀ i, (i = 6571 * b + 6 ∨ (6571 * b + 9 ≤ i ∧ i < 6571 * b + 12) ∨ (6571 * b + 167 ≤ i ∧ i < 6571 * b + 175) ∨ (6571 * b + 823 ≤ i ∧ i < 6571 * b + 1123)) → y i = x i) : RLg b lg y T := by
  obtain ⟨h1, h2, h3, h4, h5, h6, h7, h8, h9⟩ := h
  refine ⟨fun k hk => by rw [e _ (by omega)]; exact h1 k hk, h2, by rw [e _ (by omega)]; exact h3, by rw [e _ (by omega)]; exact h4, by rw [e _ (by omega)]; exact h5, by rw [e _ (by omega)]; exact h6, fun j hj hj2 => ?_, h8, h9⟩
  obtain ⟨k, l, r, g1, g2, g3, g4, g5, g6, g7, g8, g9⟩ := h7 j hj hj2
  exact ⟨k, l, r, g1, g2, g3, by rw [e _ (by omega)]; exact g4, by rw [e _ (by omega)]; exact g5, by rw [e _ (by omega)]; exact g6, g7, by rw [e _ (by omega)]; exact g8, by rw [e _ (by omega)]; exact g9⟩
theorem Ok2.gl {S A B : Type} {v : S} {k : S → Option A} {q : Option B} {P : A → B → Prop} (h : Ok2 (k v) q P) : Ok2 (glt v k) q P := h
theorem Ok2.gr {S A B : Type} {v : S} {k : S → Option B} {o : Option A} {P : A → B → Prop} (h : Ok2 o (k v) P) : Ok2 o (glt v k) P := h
theorem eb {A B : Type} {o : Option A} {k : A → Option B} {a : A} {r : Option B} (h : o = some a) (h2 : k a = r) : o.bind k = r := by subst h; exact h2
theorem eg {S R : Type} {v : S} {k : S → R} {r : R} (h : k v = r) : glt v k = r := h
theorem rows2g {b h sd k v T0 T m0 : Nat} {am : Int32} {bd0 bd : BdT} {x0 x D : Nat → Int32} {R : Type} {sm : MoT} {r5 r11 : Int32} {Jc : BdT → Option R} {Jr : MoT → Option MoT} {P : R → MoT → Prop} (hb : b < 3) (hs : sd < 2) (hk : k < 8) (hv : v < 8) (hh : h < 4) (hhow : Bd_how bd0 = nI h) (hT : T + 8 < 2147483647) (hm : m0 < 2147483648) (hN : ∀ i, i < 128 → Bd_nets bd0 i = xn x0 b i) (hS0 : SI b bd0 x0 T0 m0 am bd x T D)
    (next : ∀ bd' x' T', T ≤ T' → T' ≤ T + 8 → SI b bd0 x0 T0 m0 am bd' x' T' (fun q => D q + dR (Bd_nets bd0) h sd k v (r11 - r5) q) → Ok2 (Jc bd') (Jr (mo sm x')) P) :
    Ok2 ((f_X0_sendRowsWith bd (nI sd) (nI k) (nI v) (r11 - r5)).bind Jc)
      (glt Jr fun J21 => if b2i (hsB (Bd_nets bd0) (1 - sd) k) = 0 then (f_X9_isOuter (nI h) (nI sd)).bind fun r31 => if r31 = 0 then J21 (mo sm x) else (f_X9_sendsBy (mo sm x) (nI b) (nI sd) (nI k) (nI v) (8 : Int32) (r11 - r5)).bind fun r34 => J21 r34
        else glt (fun (s0_37 : MoT) => J21 s0_37) fun K36 => f_X9_changes_L138_40 (nI b) (nI sd) (nI k) (nI v) r5 r11 K36 10000 (0 : Int32) (mo sm x)) P := by
  have h0 := rows2k sm r5 r11 Jc Jr P hb hs hk hv hh hhow hT hm hN hS0 next
  simp only [glE, li_0, li_8]
  exact h0
theorem b10 : ¬ b2i true = 0 := by decide
theorem b01 : ¬ b2i false = b2i true := by decide
theorem b11 : ¬ b2i true = b2i false := by decide
theorem sub0 {a b : Int32} (h : a - b = nI 0) : a = b := by
  have e := Int32.sub_add_cancel a b
  rw [h, z2] at e
  exact e.symm
set_option maxHeartbeats 4000000 in
theorem change2 {b h sd k v T0 T m0 : Nat} {am many : Int32} {bd : BdT} {x : Nat → Int32} (sm : MoT) (hb : b < 3) (hs : sd < 2) (hk : k < 8) (hv : v < 8) (hh : h < 4) (hT : T + 24 < 2147483647) (hm : m0 < 2147483648) (hhow : Bd_how bd = nI h) (hxh : x (6571 * b) = nI h) (hN : ∀ i, i < 128 → Bd_nets bd i = xn x b i)
    (hB : nB (Bd_nets bd)) (hB' : nB (upd (Bd_nets bd) ((sd * 8 + k) * 8 + v) (Bd_nets bd ((sd * 8 + k) * 8 + v) + many))) (hL : RLg b (Bd_ledger bd) x T) (hM : LM (Bd_ledger bd) T0 T m0 am) :
    Ok2 (f_X0_change bd (nI sd) (nI k) (nI v) many) (f_X9_changes (mo sm x) (nI b) (nI sd) (nI k) (nI v) many)
      (fun bd' sm' => ∃ x' T', sm' = mo sm x' ∧ T ≤ T' ∧ T' ≤ T + 24 ∧ CH b h sd k v many bd x T0 m0 am bd' x' T') := by
  have hBx : nB (xn x b) := fun i hi => by rw [← hN i hi]; exact hB i hi
  have hBx' : nB (upd (xn x b) ((sd * 8 + k) * 8 + v) (xn x b ((sd * 8 + k) * 8 + v) + many)) := fun i hi => by
    have := hB' i hi
    by_cases e : i = (sd * 8 + k) * 8 + v
    · rw [ue e] at this ⊢; rw [← hN _ (by omega)]; exact this
    · rw [un e] at this ⊢; rw [← hN i hi]; exact this
  have hN' : ∀ i, i < 128 → upd (xn x b) ((sd * 8 + k) * 8 + v) (xn x b ((sd * 8 + k) * 8 + v) + many) i = upd (Bd_nets bd) ((sd * 8 + k) * 8 + v) (Bd_nets bd ((sd * 8 + k) * 8 + v) + many) i := fun i hi => by
    by_cases e : i = (sd * 8 + k) * 8 + v
    · rw [ue e, ue e, ← hN _ (by omega)]
    · rw [un e, un e, ← hN i hi]
  have s1 := oneSub sd hs
  have c1 := c_has bd hs hk
  have c2 := c_th bd hs hk hv
  have c3 := c_np sd k v
  have c4 : f_X0_thereOf (Bd_w_nets bd (upd (Bd_nets bd) ((sd * 8 + k) * 8 + v) (Bd_nets bd ((sd * 8 + k) * 8 + v) + many))) (nI sd) (nI k) (nI v) = some (th (upd (Bd_nets bd) ((sd * 8 + k) * 8 + v) (Bd_nets bd ((sd * 8 + k) * 8 + v) + many)) sd k v) := c_th _ hs hk hv
  have c5 : f_X0_has (Bd_w_nets bd (upd (Bd_nets bd) ((sd * 8 + k) * 8 + v) (Bd_nets bd ((sd * 8 + k) * 8 + v) + many))) (nI sd) (nI k) = some (b2i (hsB (upd (Bd_nets bd) ((sd * 8 + k) * 8 + v) (Bd_nets bd ((sd * 8 + k) * 8 + v) + many)) sd k)) := c_has _ hs hk
  have c6 : f_X0_hasOuter (Bd_how bd) (nI (1 - sd)) = some (b2i (outB h (1 - sd))) := by rw [hhow, c_out h hh _ (by omega)]
  have g1 : f_X9_get (mo sm x) (nI b) (nI 0) = some (nI h) := by rw [r_get sm x hb (by omega)]; exact congrArg some hxh
  have g2 : f_X9_has (mo sm x) (nI b) (nI sd) (nI k) = some (b2i (hsB (Bd_nets bd) sd k)) := by rw [r_has sm x hb hs hk hBx, hsB_congr hs hk hN]
  have g3 : f_X9_thereOf (mo sm x) (nI b) (nI sd) (nI k) (nI v) = some (th (Bd_nets bd) sd k v) := by rw [r_th sm x hb hs hk hv, th_congr hs hk hN v hv]
  have g4 : f_X9_netAt (nI sd) (nI k) (nI v) = some (nI (15 + 64 * sd + 8 * k + v)) := by
    unfold f_X9_netAt
    simp (disch := omega) only [li_0, li_1, li_2, li_3, li_4, li_5, li_6, li_7, li_8, li_9, li_10, li_11, li_12, li_13, li_14, li_15, li_16, li_20, li_30, li_31, li_32, li_40, li_42, li_45, li_48, li_57, li_58, li_59, li_60, li_64, li_74, li_75, li_81, li_97, li_122, li_124, li_143, li_151, li_159, li_167, li_175, li_200, li_255, li_648, li_650, li_823, li_900, li_999, li_1123, li_1298, li_1363, li_1379, li_2592, li_6571, li_9999, li_65536, li_65537, ng1, ng2, nI_add, pk_mul, remN, divN, inbI, ixN, leN, ltN, eqN, m1E, m1E', m2E, m12, m21, bsm, glE, b2iT, b2iF, if_pos, if_neg, ite_true, ite_false, not_true, not_false_iff, reduceCtorEq]
  have g5 := r_more sm x (b := b) (i := 15 + 64 * sd + 8 * k + v) many hb (by omega)
  have ex1 : upd (xn x b) ((sd * 8 + k) * 8 + v) (xn x b ((sd * 8 + k) * 8 + v) + many) = xn (upd x (6571 * b + (15 + 64 * sd + 8 * k + v)) (x (6571 * b + (15 + 64 * sd + 8 * k + v)) + many)) b := by
    rw [xn_upd]
    congr 2
    unfold xn
    congr 1
    omega
  have hBx1 : nB (xn (upd x (6571 * b + (15 + 64 * sd + 8 * k + v)) (x (6571 * b + (15 + 64 * sd + 8 * k + v)) + many)) b) := by rw [← ex1]; exact hBx'
  have hFx1 : FrC b x (upd x (6571 * b + (15 + 64 * sd + 8 * k + v)) (x (6571 * b + (15 + 64 * sd + 8 * k + v)) + many)) := fun i hi => un (by omega)
  have hRx1 : ∀ i, (i = 6571 * b + 6 ∨ (6571 * b + 9 ≤ i ∧ i < 6571 * b + 12) ∨ (6571 * b + 167 ≤ i ∧ i < 6571 * b + 175) ∨ (6571 * b + 823 ≤ i ∧ i < 6571 * b + 1123)) → upd x (6571 * b + (15 + 64 * sd + 8 * k + v)) (x (6571 * b + (15 + 64 * sd + 8 * k + v)) + many) i = x i := fun i hi => un (by omega)
  have hFl1 : ∀ i, i < 16 → upd x (6571 * b + (15 + 64 * sd + 8 * k + v)) (x (6571 * b + (15 + 64 * sd + 8 * k + v)) + many) (6571 * b + (1363 + i)) = x (6571 * b + (1363 + i)) := fun i hi => un (by omega)
  generalize ex : upd x (6571 * b + (15 + 64 * sd + 8 * k + v)) (x (6571 * b + (15 + 64 * sd + 8 * k + v)) + many) = x1 at g5 ex1 hBx1 hFx1 hRx1 hFl1
  have g6 : f_X9_thereOf (mo sm x1) (nI b) (nI sd) (nI k) (nI v) = some (th (upd (Bd_nets bd) ((sd * 8 + k) * 8 + v) (Bd_nets bd ((sd * 8 + k) * 8 + v) + many)) sd k v) := by
    rw [r_th sm x1 hb hs hk hv, ← ex1, th_congr hs hk hN' v hv]
  have g7 : f_X9_has (mo sm x1) (nI b) (nI sd) (nI k) = some (b2i (hsB (upd (Bd_nets bd) ((sd * 8 + k) * 8 + v) (Bd_nets bd ((sd * 8 + k) * 8 + v) + many)) sd k)) := by
    rw [r_has sm x1 hb hs hk hBx1, ← ex1, hsB_congr hs hk hN']
  have g8 : f_X9_has (mo sm x1) (nI b) (nI (1 - sd)) (nI k) = some (b2i (hsB (upd (Bd_nets bd) ((sd * 8 + k) * 8 + v) (Bd_nets bd ((sd * 8 + k) * 8 + v) + many)) (1 - sd) k)) := by
    rw [r_has sm x1 hb (by omega) hk hBx1, ← ex1, hsB_congr (by omega) hk hN']
  have g9 := r_out h hh (1 - sd) (by omega)
  have g10 := r_more sm x1 (b := b) (i := 1363 + 8 * sd + k) (nI 1) hb (by omega)
  have hx1N : ∀ i, i < 128 → Bd_nets (Bd_w_nets bd (upd (Bd_nets bd) ((sd * 8 + k) * 8 + v) (Bd_nets bd ((sd * 8 + k) * 8 + v) + many))) i = xn x1 b i := fun i hi => by
    rw [← ex1]; exact (hN' i hi).symm
  have hRL1 : RLg b (Bd_ledger bd) x1 T := RL_fr hL hRx1
  have s1' : (1 : Int32) - nI sd = nI (1 - sd) := s1
  have e1363 : ((1363 : Int32) + (8 : Int32) * nI sd) + nI k = nI (1363 + 8 * sd + k) := by
    simp (disch := omega) only [li_0, li_1, li_2, li_3, li_4, li_5, li_6, li_7, li_8, li_9, li_10, li_11, li_12, li_13, li_14, li_15, li_16, li_20, li_30, li_31, li_32, li_40, li_42, li_45, li_48, li_57, li_58, li_59, li_60, li_64, li_74, li_75, li_81, li_97, li_122, li_124, li_143, li_151, li_159, li_167, li_175, li_200, li_255, li_648, li_650, li_823, li_900, li_999, li_1123, li_1298, li_1363, li_1379, li_2592, li_6571, li_9999, li_65536, li_65537, ng1, ng2, nI_add, pk_mul, remN, divN, inbI, ixN, leN, ltN, eqN, m1E, m1E', m2E, m12, m21, bsm, glE, b2iT, b2iF, if_pos, if_neg, ite_true, ite_false, not_true, not_false_iff, reduceCtorEq]
  have hI : inb (nI ((sd * 8 + k) * 8 + v)) 128 := inbN (by omega) (by omega)
  have hix : ix (nI ((sd * 8 + k) * 8 + v)) = (sd * 8 + k) * 8 + v := ixN (by omega)
  have e16 : (nI sd * (8 : Int32)) + nI k = nI (sd * 8 + k) := by
    simp (disch := omega) only [li_0, li_1, li_2, li_3, li_4, li_5, li_6, li_7, li_8, li_9, li_10, li_11, li_12, li_13, li_14, li_15, li_16, li_20, li_30, li_31, li_32, li_40, li_42, li_45, li_48, li_57, li_58, li_59, li_60, li_64, li_74, li_75, li_81, li_97, li_122, li_124, li_143, li_151, li_159, li_167, li_175, li_200, li_255, li_648, li_650, li_823, li_900, li_999, li_1123, li_1298, li_1363, li_1379, li_2592, li_6571, li_9999, li_65536, li_65537, ng1, ng2, nI_add, pk_mul, remN, divN, inbI, ixN, leN, ltN, eqN, m1E, m1E', m2E, m12, m21, bsm, glE, b2iT, b2iF, if_pos, if_neg, ite_true, ite_false, not_true, not_false_iff, reduceCtorEq]
  have hI16 : inb (nI (sd * 8 + k)) 16 := inbN (by omega) (by omega)
  have hix16 : ix (nI (sd * 8 + k)) = sd * 8 + k := ixN (by omega)
  by_cases hd : th (upd (Bd_nets bd) ((sd * 8 + k) * 8 + v) (Bd_nets bd ((sd * 8 + k) * 8 + v) + many)) sd k v - th (Bd_nets bd) sd k v = nI 0
  · have hsame := hs_same (k := k) hv (sub0 hd)
    have hz := ch_zero sm x1 b sd k v h (if hsB (upd (Bd_nets bd) ((sd * 8 + k) * 8 + v) (Bd_nets bd ((sd * 8 + k) * 8 + v) + many)) (1 - sd) k then 1 else 0) _ _ hb hs hk hh hd
    have c3' := r_out h hh sd hs
    have hR : (f_X9_changes (mo sm x) (nI b) (nI sd) (nI k) (nI v) many) = some (mo sm x1) := by
      unfold f_X9_changes
      rw [s1', e1363]
      rw [hsame] at g7
      unfold rRow at hz
      refine eb g1 (eb g2 (eb g3 (eb g4 (eb g5 (eb g6 (eb g7 (eb g8 (eg ((if_pos rfl).trans (eg ?_)))))))))) 
      have e2 : ∀ (Jr : MoT → Option MoT), (∀ s, Jr s = some s) → (if b2i (hsB (upd (Bd_nets bd) ((sd * 8 + k) * 8 + v) (Bd_nets bd ((sd * 8 + k) * 8 + v) + many)) (1 - sd) k) = nI 0 then (f_X9_isOuter (nI h) (nI sd)).bind fun r31 => if r31 = nI 0 then Jr (mo sm x1) else (f_X9_sendsBy (mo sm x1) (nI b) (nI sd) (nI k) (nI v) (nI 8) (th (upd (Bd_nets bd) ((sd * 8 + k) * 8 + v) (Bd_nets bd ((sd * 8 + k) * 8 + v) + many)) sd k v - th (Bd_nets bd) sd k v)).bind fun r34 => Jr r34
        else f_X9_changes_L138_40 (nI b) (nI sd) (nI k) (nI v) (th (Bd_nets bd) sd k v) (th (upd (Bd_nets bd) ((sd * 8 + k) * 8 + v) (Bd_nets bd ((sd * 8 + k) * 8 + v) + many)) sd k v) (fun s => Jr s) 10000 (nI 0) (mo sm x1)) = some (mo sm x1) := by
        intro Jr hJ
        have eJ : (fun s => Jr s) = (fun s => some s) := funext hJ
        rw [eJ, hJ]
        cases ho : hsB (upd (Bd_nets bd) ((sd * 8 + k) * 8 + v) (Bd_nets bd ((sd * 8 + k) * 8 + v) + many)) (1 - sd) k
        · rw [hd, r_send0, c3', bsm, bsm]
          cases outB h sd <;> simp (disch := omega) only [li_0, li_1, li_2, li_3, li_4, li_5, li_6, li_7, li_8, li_9, li_10, li_11, li_12, li_13, li_14, li_15, li_16, li_20, li_30, li_31, li_32, li_40, li_42, li_45, li_48, li_57, li_58, li_59, li_60, li_64, li_74, li_75, li_81, li_97, li_122, li_124, li_143, li_151, li_159, li_167, li_175, li_200, li_255, li_648, li_650, li_823, li_900, li_999, li_1123, li_1298, li_1363, li_1379, li_2592, li_6571, li_9999, li_65536, li_65537, ng1, ng2, nI_add, pk_mul, remN, divN, inbI, ixN, leN, ltN, eqN, m1E, m1E', m2E, m12, m21, bsm, glE, b2iT, b2iF, if_pos, if_neg, ite_true, ite_false, not_true, not_false_iff, reduceCtorEq]
        · rw [ho] at hz
          simp (disch := omega) only [if_true, eqN, if_neg] at hz
          simp (disch := omega) only [li_0, li_1, li_2, li_3, li_4, li_5, li_6, li_7, li_8, li_9, li_10, li_11, li_12, li_13, li_14, li_15, li_16, li_20, li_30, li_31, li_32, li_40, li_42, li_45, li_48, li_57, li_58, li_59, li_60, li_64, li_74, li_75, li_81, li_97, li_122, li_124, li_143, li_151, li_159, li_167, li_175, li_200, li_255, li_648, li_650, li_823, li_900, li_999, li_1123, li_1298, li_1363, li_1379, li_2592, li_6571, li_9999, li_65536, li_65537, ng1, ng2, nI_add, pk_mul, remN, divN, inbI, ixN, leN, ltN, eqN, m1E, m1E', m2E, m12, m21, bsm, glE, b2iT, b2iF, if_pos, if_neg, ite_true, ite_false, not_true, not_false_iff, reduceCtorEq]
          exact hz
      cases hh0 : hsB (Bd_nets bd) sd k
      · refine (if_pos rfl).trans ((if_pos rfl).trans (eg ?_))
        simp only [glE, li_0, li_1, li_2, li_3, li_4, li_5, li_6, li_7, li_8, li_9, li_10, li_11, li_12, li_13, li_14, li_15, li_16, li_20, li_30, li_31, li_32, li_40, li_42, li_45, li_48, li_57, li_58, li_59, li_60, li_64, li_74, li_75, li_81, li_97, li_122, li_124, li_143, li_151, li_159, li_167, li_175, li_200, li_255, li_648, li_650, li_823, li_900, li_999, li_1123, li_1298, li_1363, li_1379, li_2592, li_6571, li_9999, li_65536, li_65537, ng1, ng2]
        exact e2 _ (fun s => by first | rfl | exact if_pos rfl)
      · refine (if_neg b10).trans (eg ?_)
        simp only [glE, li_0, li_1, li_2, li_3, li_4, li_5, li_6, li_7, li_8, li_9, li_10, li_11, li_12, li_13, li_14, li_15, li_16, li_20, li_30, li_31, li_32, li_40, li_42, li_45, li_48, li_57, li_58, li_59, li_60, li_64, li_74, li_75, li_81, li_97, li_122, li_124, li_143, li_151, li_159, li_167, li_175, li_200, li_255, li_648, li_650, li_823, li_900, li_999, li_1123, li_1298, li_1363, li_1379, li_2592, li_6571, li_9999, li_65536, li_65537, ng1, ng2]
        exact e2 _ (fun s => by first | rfl | exact (if_neg b10).trans (if_neg b10))
    rw [hR]
    unfold f_X0_change
    refine Ok2.bl c1 (Ok2.bl c2 (Ok2.bl c3 (Ok2.lt hI (Ok2.lt hI ?_))))
    rw [hix]
    refine Ok2.bl c4 (Ok2.lt hd ?_)
    refine Ok2.ret ⟨x1, T, rfl, by omega, by omega, ?_⟩
    refine ⟨rfl, rfl, hRL1, hM, hx1N, fun hq i hi => ?_, fun k' l r q1 q2 q3 => ?_, hFx1⟩
    · show Bd_turns bd i = _
      rw [hFl1 i hi]
      exact hq i hi
    · show Bd_sums bd _ = Bd_sums bd _ + (J (upd (Bd_nets bd) ((sd * 8 + k) * 8 + v) (Bd_nets bd ((sd * 8 + k) * 8 + v) + many)) h k' l r - J (Bd_nets bd) h k' l r)
      rw [← chD_J hs hk hv q1 q2 q3]
      unfold chD
      rw [hd, hsame]
      have e0 : dR (upd (Bd_nets bd) ((sd * 8 + k) * 8 + v) (Bd_nets bd ((sd * 8 + k) * 8 + v) + many)) h sd k v (nI 0) (81 * k' + 9 * l + r) = nI 0 := by
        unfold dR
        have e1 : ∀ n, itr (fun w a => a + (if 81 * k' + 9 * l + r = pl sd k v w then nI 0 * th (upd (Bd_nets bd) ((sd * 8 + k) * 8 + v) (Bd_nets bd ((sd * 8 + k) * 8 + v) + many)) (1 - sd) k w else nI 0)) (nI 0) n = nI 0 := by
          intro n
          induction n with
          | zero => rfl
          | succ n ih =>
            show itr _ _ n + _ = _
            rw [ih, z8, ite_self, z1]
        rw [e1]
        simp only [ite_self]
      rw [e0]
      cases hsB (Bd_nets bd) sd k <;> simp [z1]
  · have hS0 : SI b (Bd_w_nets bd (upd (Bd_nets bd) ((sd * 8 + k) * 8 + v) (Bd_nets bd ((sd * 8 + k) * 8 + v) + many))) x1 T0 m0 am (Bd_w_nets bd (upd (Bd_nets bd) ((sd * 8 + k) * 8 + v) (Bd_nets bd ((sd * 8 + k) * 8 + v) + many))) x1 T (fun _ => nI 0) :=
      ⟨rfl, rfl, rfl, hRL1, fun _ _ => rfl, fun p => (z1 _).symm, hM⟩
    have hFx2 : FrC b x (upd x1 (6571 * b + (1363 + 8 * sd + k)) (x1 (6571 * b + (1363 + 8 * sd + k)) + nI 1)) := fun i hi => by rw [un (by omega)]; exact hFx1 i hi
    have hx2n : ∀ i, i < 128 → xn (upd x1 (6571 * b + (1363 + 8 * sd + k)) (x1 (6571 * b + (1363 + 8 * sd + k)) + nI 1)) b i = xn x1 b i := xn_n x1 _ (by omega)
    have hRx2 : RLg b (Bd_ledger bd) (upd x1 (6571 * b + (1363 + 8 * sd + k)) (x1 (6571 * b + (1363 + 8 * sd + k)) + nI 1)) T := RL_fr hRL1 (fun i hi => un (by omega))
    have hFl2 : (∀ i, i < 16 → Bd_turns bd i = x (6571 * b + (1363 + i))) → ∀ i, i < 16 → upd (Bd_turns bd) (sd * 8 + k) (Bd_turns bd (sd * 8 + k) + nI 1) i = upd x1 (6571 * b + (1363 + 8 * sd + k)) (x1 (6571 * b + (1363 + 8 * sd + k)) + nI 1) (6571 * b + (1363 + i)) := fun hq i hi => by
      by_cases e : i = sd * 8 + k
      · rw [ue e, ue (by omega), hq _ (by omega), ← hFl1 _ (by omega)]
        congr 2
        omega
      · rw [un e, un (by omega), hFl1 i hi, hq i hi]
    generalize upd x1 (6571 * b + (1363 + 8 * sd + k)) (x1 (6571 * b + (1363 + 8 * sd + k)) + nI 1) = x2 at g10 hFx2 hx2n hRx2 hFl2
    have hS2 : SI b (Bd_w_nets bd (upd (Bd_nets bd) ((sd * 8 + k) * 8 + v) (Bd_nets bd ((sd * 8 + k) * 8 + v) + many))) x2 T0 m0 am (Bd_w_nets bd (upd (Bd_nets bd) ((sd * 8 + k) * 8 + v) (Bd_nets bd ((sd * 8 + k) * 8 + v) + many))) x2 T (fun _ => nI 0) :=
      ⟨rfl, rfl, rfl, hRx2, fun _ _ => rfl, fun p => (z1 _).symm, hM⟩
    have hx2N : ∀ i, i < 128 → Bd_nets (Bd_w_nets bd (upd (Bd_nets bd) ((sd * 8 + k) * 8 + v) (Bd_nets bd ((sd * 8 + k) * 8 + v) + many))) i = xn x2 b i := fun i hi => by rw [hx2n i hi]; exact hx1N i hi
    have hx1e : ∀ i, i < 128 → xn x1 b i = upd (xn x b) ((sd * 8 + k) * 8 + v) (xn x b ((sd * 8 + k) * 8 + v) + many) i := fun i hi => by rw [← ex1]
    have hx2e : ∀ i, i < 128 → xn x2 b i = upd (xn x b) ((sd * 8 + k) * 8 + v) (xn x b ((sd * 8 + k) * 8 + v) + many) i := fun i hi => by rw [hx2n i hi, ← ex1]
    unfold f_X0_change f_X9_changes
    rw [s1', e1363, e16]
    refine Ok2.br g1 (Ok2.br g2 (Ok2.br g3 (Ok2.br g4 (Ok2.br g5 (Ok2.br g6 (Ok2.br g7 (Ok2.br g8 (Ok2.gr ?_))))))))
    refine Ok2.bl c1 (Ok2.bl c2 (Ok2.bl c3 (Ok2.lt hI (Ok2.lt hI ?_))))
    rw [hix]
    refine Ok2.bl c4 (Ok2.lf hd (Ok2.bl c5 (Ok2.gl ?_)))
    cases hh0 : hsB (Bd_nets bd) sd k <;> cases hh1 : hsB (upd (Bd_nets bd) ((sd * 8 + k) * 8 + v) (Bd_nets bd ((sd * 8 + k) * 8 + v) + many)) sd k <;> rw [hh0] at c1 g2 <;> rw [hh1] at c5 g7
    · refine Ok2.rt rfl (Ok2.gr (Ok2.rt rfl (Ok2.rt rfl ?_)))
      refine Ok2.lt rfl (Ok2.lt rfl ?_)
      refine rows2g (bd0 := Bd_w_nets bd (upd (Bd_nets bd) ((sd * 8 + k) * 8 + v) (Bd_nets bd ((sd * 8 + k) * 8 + v) + many))) (h := h) hb hs hk hv hh hhow (by omega) hm hx1N hS0 ?_
      intro bd' x' T' q1 q2 q3
      refine Ok2.gl ?_
      refine Ok2.lt rfl (Ok2.lt rfl (Ok2.rt rfl ?_))
      refine Ok2.ret ⟨x', T', rfl, by omega, by omega, ch_fin (Bd_turns bd') hs hk hv hN hFx1 hx1e (fun hq i hi => by rw [q3.2.1]; exact (hq i hi).trans (hFl1 i hi).symm) q3 ?_⟩
      funext q
      unfold chD
      rw [hh0, hh1]
      simp [z1, z2]
    · cases ho : outB h (1 - sd) <;> rw [ho] at c6 g9
      · refine Ok2.rf b01 (Ok2.br g10 (Ok2.gr (Ok2.rt rfl (Ok2.rf b10 (Ok2.br g9 (Ok2.rt rfl ?_))))))
        refine Ok2.lt rfl (Ok2.lf b10 (Ok2.bl c6 (Ok2.lt rfl ?_)))
        refine rows2g (bd0 := Bd_w_nets bd (upd (Bd_nets bd) ((sd * 8 + k) * 8 + v) (Bd_nets bd ((sd * 8 + k) * 8 + v) + many))) (h := h) hb hs hk hv hh hhow (by omega) hm hx2N hS2 ?_
        intro bd' x' T' q1 q2 q3
        refine Ok2.gl ?_
        refine Ok2.lt rfl (Ok2.lf b01 (Ok2.lt hI16 (Ok2.lt hI16 (Ok2.rt rfl ?_))))
        rw [hix16]
        refine Ok2.ret ⟨x', T', rfl, by omega, by omega, ch_fin _ hs hk hv hN hFx2 hx2e (fun hq i hi => by rw [q3.2.1]; exact hFl2 hq i hi) q3 ?_⟩
        funext q
        unfold chD
        rw [hh0, hh1, ho]
        simp [z1, z2]
      · refine Ok2.rf b01 (Ok2.br g10 (Ok2.gr (Ok2.rt rfl (Ok2.rf b10 (Ok2.br g9 (Ok2.rf b10 ?_))))))
        refine Ok2.lt rfl (Ok2.lf b10 (Ok2.bl c6 (Ok2.lf b10 ?_)))
        refine Ok2.b (outers2 sm m1 hb (show 1 - sd < 2 by omega) hk (by omega) hm hx2N hS2) ?_
        rintro bd1 sm1 ⟨x3, T3, rfl, p1, p2, p3⟩
        refine rows2g (bd0 := Bd_w_nets bd (upd (Bd_nets bd) ((sd * 8 + k) * 8 + v) (Bd_nets bd ((sd * 8 + k) * 8 + v) + many))) (h := h) hb hs hk hv hh hhow (by omega) hm hx2N p3 ?_
        intro bd' x' T' q1 q2 q3
        refine Ok2.gl ?_
        refine Ok2.lt rfl (Ok2.lf b01 (Ok2.lt hI16 (Ok2.lt hI16 (Ok2.rt rfl ?_))))
        rw [hix16]
        refine Ok2.ret ⟨x', T', rfl, by omega, by omega, ch_fin _ hs hk hv hN hFx2 hx2e (fun hq i hi => by rw [q3.2.1]; exact hFl2 hq i hi) q3 ?_⟩
        funext q
        unfold chD
        rw [hh0, hh1, ho]
        simp [z1, z2]
    · cases ho : outB h (1 - sd) <;> rw [ho] at c6 g9
      · refine Ok2.rf b11 (Ok2.br g10 (Ok2.gr (Ok2.rf b10 ?_)))
        refine Ok2.lf b10 ?_
        refine rows2g (bd0 := Bd_w_nets bd (upd (Bd_nets bd) ((sd * 8 + k) * 8 + v) (Bd_nets bd ((sd * 8 + k) * 8 + v) + many))) (h := h) hb hs hk hv hh hhow (by omega) hm hx2N hS2 ?_
        intro bd' x' T' q1 q2 q3
        refine Ok2.gl ?_
        have c6' : f_X0_hasOuter (Bd_how bd') (nI (1 - sd)) = some (b2i false) := by rw [q3.2.2.1]; exact c6
        refine Ok2.lf b10 (Ok2.lt rfl (Ok2.bl c6' (Ok2.lt rfl (Ok2.lf b11 (Ok2.lt hI16 (Ok2.lt hI16 ?_))))))
        refine Ok2.rf b10 (Ok2.rt rfl (Ok2.br g9 (Ok2.rt rfl ?_)))
        rw [hix16]
        refine Ok2.ret ⟨x', T', rfl, by omega, by omega, ch_fin _ hs hk hv hN hFx2 hx2e (fun hq i hi => by rw [q3.2.1]; exact hFl2 hq i hi) q3 ?_⟩
        funext q
        unfold chD
        rw [hh0, hh1, ho]
        simp [z1, z2]
      · refine Ok2.rf b11 (Ok2.br g10 (Ok2.gr (Ok2.rf b10 ?_)))
        refine Ok2.lf b10 ?_
        refine rows2g (bd0 := Bd_w_nets bd (upd (Bd_nets bd) ((sd * 8 + k) * 8 + v) (Bd_nets bd ((sd * 8 + k) * 8 + v) + many))) (h := h) hb hs hk hv hh hhow (by omega) hm hx2N hS2 ?_
        intro bd' x' T' q1 q2 q3
        refine Ok2.gl ?_
        have c6' : f_X0_hasOuter (Bd_how bd') (nI (1 - sd)) = some (b2i true) := by rw [q3.2.2.1]; exact c6
        refine Ok2.lf b10 (Ok2.lt rfl (Ok2.bl c6' (Ok2.lf b10 ?_)))
        refine Ok2.rf b10 (Ok2.rt rfl (Ok2.br g9 (Ok2.rf b10 ?_)))
        refine Ok2.b (outers2 sm (nI 1) hb (show 1 - sd < 2 by omega) hk (by omega) hm hx2N q3) ?_
        rintro bd4 sm4 ⟨x4, T4, rfl, p1, p2, p3⟩
        refine Ok2.lf b11 (Ok2.lt hI16 (Ok2.lt hI16 ?_))
        rw [hix16]
        refine Ok2.ret ⟨x4, T4, rfl, by omega, by omega, ch_fin _ hs hk hv hN hFx2 hx2e (fun hq i hi => by rw [p3.2.1]; exact hFl2 hq i hi) p3 ?_⟩
        funext q
        unfold chD
        rw [hh0, hh1, ho]
        simp [z1, z2]
    · refine Ok2.rt rfl (Ok2.gr (Ok2.rf b10 ?_))
      refine Ok2.lf b10 ?_
      refine rows2g (bd0 := Bd_w_nets bd (upd (Bd_nets bd) ((sd * 8 + k) * 8 + v) (Bd_nets bd ((sd * 8 + k) * 8 + v) + many))) (h := h) hb hs hk hv hh hhow (by omega) hm hx1N hS0 ?_
      intro bd' x' T' q1 q2 q3
      refine Ok2.gl ?_
      refine Ok2.lf b10 (Ok2.lf b10 (Ok2.lt rfl (Ok2.rf b10 (Ok2.rf b10 ?_))))
      refine Ok2.ret ⟨x', T', rfl, by omega, by omega, ch_fin (Bd_turns bd') hs hk hv hN hFx1 hx1e (fun hq i hi => by rw [q3.2.1]; exact (hq i hi).trans (hFl1 i hi).symm) q3 ?_⟩
      funext q
      unfold chD
      rw [hh0, hh1]
      simp [z1, z2]
