/-! two boards alike at one key: as many sends of both -/
def TW (T1 T2 D : Nat) (N1 N2 : Nat → Int32) (h : Nat) (a b : BdT) : Prop := Bd_nets a = N1 ∧ Bd_nets b = N2 ∧ Bd_how a = nI h ∧ Bd_how b = nI h ∧ ∃ d, d ≤ D ∧ Lg_total (Bd_ledger a) = nI (T1 + d) ∧ Lg_total (Bd_ledger b) = nI (T2 + d)
def KE (k : Nat) (N1 N2 : Nat → Int32) : Prop := ∀ s v, s < 2 → v < 8 → N1 ((s * 8 + k) * 8 + v) = N2 ((s * 8 + k) * 8 + v)
theorem ke_th {k s v : Nat} {N1 N2 : Nat → Int32} (h : KE k N1 N2) (hs : s < 2) (hv : v < 8) : th N1 s k v = th N2 s k v := by unfold th; rw [h s v hs hv]
theorem ke_hs {k s : Nat} {N1 N2 : Nat → Int32} (h : KE k N1 N2) (hs : s < 2) : hsB N1 s k = hsB N2 s k := by
  unfold hsB
  exact anyB_congr (fun v hv => by rw [h s v hs hv])
theorem tw_mono {T1 T2 D D' h : Nat} {N1 N2 : Nat → Int32} {a b : BdT} (H : TW T1 T2 D N1 N2 h a b) (hd : D ≤ D') : TW T1 T2 D' N1 N2 h a b := by
  obtain ⟨h1, h2, h3, h4, d, h5, h6⟩ := H
  exact ⟨h1, h2, h3, h4, d, by omega, h6⟩
theorem tw_send {T1 T2 D h sd k v w : Nat} {N1 N2 : Nat → Int32} {a b : BdT} (amt : Int32) (hs : sd < 2) (hk : k < 8) (hv : v < 8) (hw : w < 9) (b1 : T1 + D < 2147483647) (b2 : T2 + D < 2147483647) (H : TW T1 T2 D N1 N2 h a b) :
    Ok2 (f_X0_send a (nI sd) (nI k) (nI v) (vN w) amt) (f_X0_send b (nI sd) (nI k) (nI v) (vN w) amt) (TW T1 T2 (D + 1) N1 N2 h) := by
  by_cases ha : amt = nI 0
  · rw [ha]
    exact ⟨a, b, c_send0 _ _ _ _ _, c_send0 _ _ _ _ _, tw_mono H (by omega)⟩
  · obtain ⟨h1, h2, h3, h4, d, hd, e1, e2⟩ := H
    refine ⟨_, _, c_send a amt hs hk hv hw (by omega) e1 ha, c_send b amt hs hk hv hw (by omega) e2 ha, h1, h2, h3, h4, d + 1, by omega, ?_, ?_⟩
    · show Lg_total (Bd_ledger a) + nI 1 = nI (T1 + (d + 1))
      rw [e1, nI_add]
      rfl
    · show Lg_total (Bd_ledger b) + nI 1 = nI (T2 + (d + 1))
      rw [e2, nI_add]
      rfl
theorem tw_outers {T1 T2 D h sd k : Nat} {N1 N2 : Nat → Int32} {a b : BdT} (sg : Int32) (hs : sd < 2) (hk : k < 8) (b1 : T1 + D + 8 < 2147483647) (b2 : T2 + D + 8 < 2147483647) (hK : KE k N1 N2) (H : TW T1 T2 D N1 N2 h a b) :
    Ok2 (f_X0_sendOuters a (nI sd) (nI k) sg) (f_X0_sendOuters b (nI sd) (nI k) sg) (TW T1 T2 (D + 8) N1 N2 h) := by
  unfold f_X0_sendOuters
  rw [glE, glE, li_0]
  refine lpp (L := fun n i s => f_X0_sendOuters_L3_5 (nI sd) (nI k) sg (fun s => some s) n i s) (M := fun n i s => f_X0_sendOuters_L3_5 (nI sd) (nI k) sg (fun s => some s) n i s) 8 (fun i s t => TW T1 T2 (D + i) N1 N2 h s t) (fun o q => Ok2 o q (TW T1 T2 (D + 8) N1 N2 h)) ?_ ?_ 10000 10000 0 a b (by omega) (by omega) (by omega) H
  · intro n n2 s t hI
    exact ⟨s, t, by rw [f_X0_sendOuters_L3_5]; exact if_pos (Int32.le_refl _), by rw [f_X0_sendOuters_L3_5]; exact if_pos (Int32.le_refl _), hI⟩
  · intro n n2 i s t hi hI
    obtain ⟨s', t', e1, e2, e3⟩ := tw_send (sd := sd) (k := k) (v := i) (w := 8) (sg * th N1 sd k i) hs hk hi (by omega) (by omega) (by omega) hI
    have t1 : f_X0_thereOf s (nI sd) (nI k) (nI i) = some (th N1 sd k i) := by rw [c_th s hs hk hi, hI.1]
    have t2 : f_X0_thereOf t (nI sd) (nI k) (nI i) = some (th N1 sd k i) := by rw [c_th t hs hk hi, hI.2.1, ke_th hK hs hi]
    rw [vN8] at e1 e2
    have g1 : ¬ (8 : Int32) ≤ nI i := nI_ge (b := 8) hi (by omega)
    refine ⟨s', t', e3, ?_, ?_⟩
    · show f_X0_sendOuters_L3_5 (nI sd) (nI k) sg (fun s => some s) (n + 1) (nI i) s = f_X0_sendOuters_L3_5 (nI sd) (nI k) sg (fun s => some s) n (nI (i + 1)) s'
      rw [f_X0_sendOuters_L3_5, nI_1]
      exact (if_neg g1).trans (eb t1 (eb e1 rfl))
    · show f_X0_sendOuters_L3_5 (nI sd) (nI k) sg (fun s => some s) (n2 + 1) (nI i) t = f_X0_sendOuters_L3_5 (nI sd) (nI k) sg (fun s => some s) n2 (nI (i + 1)) t'
      rw [f_X0_sendOuters_L3_5, nI_1]
      exact (if_neg g1).trans (eb t2 (eb e2 rfl))
theorem tw_rows {T1 T2 D h sd k v : Nat} {N1 N2 : Nat → Int32} {a b : BdT} (dl : Int32) (hs : sd < 2) (hk : k < 8) (hv : v < 8) (hh : h < 4) (b1 : T1 + D + 8 < 2147483647) (b2 : T2 + D + 8 < 2147483647) (hK : KE k N1 N2) (H : TW T1 T2 D N1 N2 h a b) :
    Ok2 (f_X0_sendRowsWith a (nI sd) (nI k) (nI v) dl) (f_X0_sendRowsWith b (nI sd) (nI k) (nI v) dl) (TW T1 T2 (D + 8) N1 N2 h) := by
  have s1 : (1 : Int32) - nI sd = nI (1 - sd) := oneSub sd hs
  have e1 : f_X0_has a (nI (1 - sd)) (nI k) = some (b2i (hsB N1 (1 - sd) k)) := by rw [c_has a (by omega) hk, H.1]
  have e2 : f_X0_has b (nI (1 - sd)) (nI k) = some (b2i (hsB N1 (1 - sd) k)) := by rw [c_has b (by omega) hk, H.2.1, ke_hs hK (by omega)]
  have o1 : f_X0_hasOuter (Bd_how a) (nI sd) = some (b2i (outB h sd)) := by rw [H.2.2.1]; exact c_out h hh sd hs
  have o2 : f_X0_hasOuter (Bd_how b) (nI sd) = some (b2i (outB h sd)) := by rw [H.2.2.2.1]; exact c_out h hh sd hs
  unfold f_X0_sendRowsWith
  rw [s1]
  refine Ok2.bl e1 (Ok2.br e2 ?_)
  cases hsB N1 (1 - sd) k with
  | false =>
    refine Ok2.lt rfl (Ok2.rt rfl (Ok2.bl o1 (Ok2.br o2 ?_)))
    cases outB h sd with
    | false => exact Ok2.lt rfl (Ok2.rt rfl (Ok2.ret (tw_mono H (by omega))))
    | true =>
      obtain ⟨s', t', g1, g2, g3⟩ := tw_send (sd := sd) (k := k) (v := v) (w := 8) dl hs hk hv (by omega) (by omega) (by omega) H
      rw [vN8] at g1 g2
      exact Ok2.lf b10 (Ok2.rf b10 (Ok2.bl g1 (Ok2.br g2 (Ok2.ret (tw_mono g3 (by omega))))))
  | true =>
    refine Ok2.lf b10 (Ok2.rf b10 ?_)
    rw [glE, glE, li_0]
    refine lpp (L := fun n i s => f_X0_sendRowsWith_L18_13 (nI sd) (nI k) (nI v) dl (fun s => some s) n i s) (M := fun n i s => f_X0_sendRowsWith_L18_13 (nI sd) (nI k) (nI v) dl (fun s => some s) n i s) 8 (fun i s t => TW T1 T2 (D + i) N1 N2 h s t) (fun o q => Ok2 o q (TW T1 T2 (D + 8) N1 N2 h)) ?_ ?_ 10000 10000 0 a b (by omega) (by omega) (by omega) H
    · intro n n2 s t hI
      exact ⟨s, t, by rw [f_X0_sendRowsWith_L18_13]; exact if_pos (Int32.le_refl _), by rw [f_X0_sendRowsWith_L18_13]; exact if_pos (Int32.le_refl _), hI⟩
    · intro n n2 i s t hi hI
      obtain ⟨s', t', e1, e2, e3⟩ := tw_send (sd := sd) (k := k) (v := v) (w := i) (dl * th N1 (1 - sd) k i) hs hk hv (by omega) (by omega) (by omega) hI
      have t1 : f_X0_thereOf s (nI (1 - sd)) (nI k) (nI i) = some (th N1 (1 - sd) k i) := by rw [c_th s (by omega) hk hi, hI.1]
      have t2 : f_X0_thereOf t (nI (1 - sd)) (nI k) (nI i) = some (th N1 (1 - sd) k i) := by rw [c_th t (by omega) hk hi, hI.2.1, ke_th hK (by omega) hi]
      rw [← vNe hi] at e1 e2
      have g1 : ¬ (8 : Int32) ≤ nI i := nI_ge (b := 8) hi (by omega)
      refine ⟨s', t', e3, ?_, ?_⟩
      · show f_X0_sendRowsWith_L18_13 (nI sd) (nI k) (nI v) dl (fun s => some s) (n + 1) (nI i) s = f_X0_sendRowsWith_L18_13 (nI sd) (nI k) (nI v) dl (fun s => some s) n (nI (i + 1)) s'
        rw [f_X0_sendRowsWith_L18_13, nI_1, s1]
        exact (if_neg g1).trans (eb t1 (eb e1 rfl))
      · show f_X0_sendRowsWith_L18_13 (nI sd) (nI k) (nI v) dl (fun s => some s) (n2 + 1) (nI i) t = f_X0_sendRowsWith_L18_13 (nI sd) (nI k) (nI v) dl (fun s => some s) n2 (nI (i + 1)) t'
        rw [f_X0_sendRowsWith_L18_13, nI_1, s1]
        exact (if_neg g1).trans (eb t2 (eb e2 rfl))
/-- what stands behind the sends of a change -/
def tP (T1 T2 : Nat) (a b : BdT) : Prop := ∃ d, d ≤ 24 ∧ Lg_total (Bd_ledger a) = nI (T1 + d) ∧ Lg_total (Bd_ledger b) = nI (T2 + d)
def tJ18 (p1 p2 r1 r12 : Int32) (s : BdT) : Option BdT := if r1 = r12 then some (s) else if inb ((p1 * (8 : Int32)) + p2) 16 then if inb ((p1 * (8 : Int32)) + p2) 16 then some ((Bd_w_turns s (upd (Bd_turns s) (ix ((p1 * (8 : Int32)) + p2)) (((Bd_turns s) (ix ((p1 * (8 : Int32)) + p2))) + (1 : Int32))))) else none else none
def tJ14 (p1 p2 p3 d r1 r12 : Int32) (s : BdT) : Option BdT := (f_X0_sendRowsWith s p1 p2 p3 d).bind fun r16 => if r1 = 0 then tJ18 p1 p2 r1 r12 r16 else if r12 = 0 then (f_X0_hasOuter (Bd_how r16) ((1 : Int32) - p1)).bind fun r25 => if r25 = 0 then tJ18 p1 p2 r1 r12 r16 else (f_X0_sendOuters r16 ((1 : Int32) - p1) p2 (1 : Int32)).bind fun r28 => tJ18 p1 p2 r1 r12 r28 else tJ18 p1 p2 r1 r12 r16
def tCh (s s' : BdT) (p1 p2 p3 d r1 r12 : Int32) : Option BdT := if r1 = 0 then if r12 = 0 then tJ14 p1 p2 p3 d r1 r12 s' else (f_X0_hasOuter (Bd_how s) ((1 : Int32) - p1)).bind fun r32 => if r32 = 0 then tJ14 p1 p2 p3 d r1 r12 s' else (f_X0_sendOuters s' ((1 : Int32) - p1) p2 (-1 : Int32)).bind fun r35 => tJ14 p1 p2 p3 d r1 r12 r35 else tJ14 p1 p2 p3 d r1 r12 s'
theorem ch_eq (s : BdT) (p1 p2 p3 p4 : Int32) : f_X0_change s p1 p2 p3 p4 = (f_X0_has s p1 p2).bind fun r1 => (f_X0_thereOf s p1 p2 p3).bind fun r3 => (f_X0_netPlace p1 p2 p3).bind fun r5 => if inb r5 128 then if inb r5 128 then (f_X0_thereOf (Bd_w_nets s (upd (Bd_nets s) (ix r5) (((Bd_nets s) (ix r5)) + p4))) p1 p2 p3).bind fun r9 => if (r9 - r3) = 0 then some ((Bd_w_nets s (upd (Bd_nets s) (ix r5) (((Bd_nets s) (ix r5)) + p4)))) else (f_X0_has (Bd_w_nets s (upd (Bd_nets s) (ix r5) (((Bd_nets s) (ix r5)) + p4))) p1 p2).bind fun r12 => tCh s (Bd_w_nets s (upd (Bd_nets s) (ix r5) (((Bd_nets s) (ix r5)) + p4))) p1 p2 p3 (r9 - r3) r1 r12 else none else none := rfl
theorem tw_18 {T1 T2 D h sd k : Nat} {N1 N2 : Nat → Int32} {a b : BdT} (r1 r12 : Int32) (hs : sd < 2) (hk : k < 8) (hD : D ≤ 24) (H : TW T1 T2 D N1 N2 h a b) : Ok2 (tJ18 (nI sd) (nI k) r1 r12 a) (tJ18 (nI sd) (nI k) r1 r12 b) (tP T1 T2) := by
  obtain ⟨_, _, _, _, d, hd, e1, e2⟩ := H
  have i0 : nI sd * (8 : Int32) + nI k = nI (sd * 8 + k) := by
    rw [show nI sd * (8 : Int32) = nI (sd * 8) from pk_mul sd 8]
    exact nI_add _ _
  have g : inb (nI sd * (8 : Int32) + nI k) 16 := by rw [i0]; exact inbN (by omega) (by omega)
  unfold tJ18
  by_cases e : r1 = r12
  · exact Ok2.lt e (Ok2.rt e (Ok2.ret ⟨d, by omega, e1, e2⟩))
  · exact Ok2.lf e (Ok2.rf e (Ok2.lt g (Ok2.lt g (Ok2.rt g (Ok2.rt g (Ok2.ret ⟨d, by omega, e1, e2⟩))))))
theorem tw_14 {T1 T2 D h sd k v : Nat} {N1 N2 : Nat → Int32} {a b : BdT} (dl : Int32) (c1 c2 : Bool) (hs : sd < 2) (hk : k < 8) (hv : v < 8) (hh : h < 4) (hD : D ≤ 8) (b1 : T1 + 24 < 2147483647) (b2 : T2 + 24 < 2147483647) (hK : KE k N1 N2) (H : TW T1 T2 D N1 N2 h a b) : Ok2 (tJ14 (nI sd) (nI k) (nI v) dl (b2i c1) (b2i c2) a) (tJ14 (nI sd) (nI k) (nI v) dl (b2i c1) (b2i c2) b) (tP T1 T2) := by
  have s1 : (1 : Int32) - nI sd = nI (1 - sd) := oneSub sd hs
  unfold tJ14
  rw [s1]
  refine Ok2.b (tw_rows dl hs hk hv hh (by omega) (by omega) hK H) (fun a' b' H' => ?_)
  have fin := tw_18 (b2i c1) (b2i c2) hs hk (show D + 8 ≤ 24 by omega) H'
  cases c1 with
  | false => exact Ok2.lt rfl (Ok2.rt rfl fin)
  | true =>
    refine Ok2.lf b10 (Ok2.rf b10 ?_)
    cases c2 with
    | true => exact Ok2.lf b10 (Ok2.rf b10 fin)
    | false =>
      have o1 : f_X0_hasOuter (Bd_how a') (nI (1 - sd)) = some (b2i (outB h (1 - sd))) := by rw [H'.2.2.1]; exact c_out h hh _ (by omega)
      have o2 : f_X0_hasOuter (Bd_how b') (nI (1 - sd)) = some (b2i (outB h (1 - sd))) := by rw [H'.2.2.2.1]; exact c_out h hh _ (by omega)
      refine Ok2.lt rfl (Ok2.rt rfl (Ok2.bl o1 (Ok2.br o2 ?_)))
      cases outB h (1 - sd) with
      | false => exact Ok2.lt rfl (Ok2.rt rfl fin)
      | true => exact Ok2.lf b10 (Ok2.rf b10 (Ok2.b (tw_outers (sd := 1 - sd) (1 : Int32) (by omega) hk (by omega) (by omega) hK H') (fun a'' b'' H'' => tw_18 _ _ hs hk (by omega) H'')))
theorem tw_change {T1 T2 h sd k v : Nat} {many : Int32} {N1 N2 : Nat → Int32} {a b : BdT} (hs : sd < 2) (hk : k < 8) (hv : v < 8) (hh : h < 4) (b1 : T1 + 24 < 2147483647) (b2 : T2 + 24 < 2147483647) (hK : KE k N1 N2) (H : TW T1 T2 0 N1 N2 h a b) :
    Ok2 (f_X0_change a (nI sd) (nI k) (nI v) many) (f_X0_change b (nI sd) (nI k) (nI v) many) (tP T1 T2) := by
  have s1 : (1 : Int32) - nI sd = nI (1 - sd) := oneSub sd hs
  have hp : (sd * 8 + k) * 8 + v < 128 := by omega
  have e1 : f_X0_has a (nI sd) (nI k) = some (b2i (hsB N1 sd k)) := by rw [c_has a hs hk, H.1]
  have e2 : f_X0_has b (nI sd) (nI k) = some (b2i (hsB N1 sd k)) := by rw [c_has b hs hk, H.2.1, ke_hs hK hs]
  have t1 : f_X0_thereOf a (nI sd) (nI k) (nI v) = some (th N1 sd k v) := by rw [c_th a hs hk hv, H.1]
  have t2 : f_X0_thereOf b (nI sd) (nI k) (nI v) = some (th N1 sd k v) := by rw [c_th b hs hk hv, H.2.1, ke_th hK hs hv]
  have g : inb (nI ((sd * 8 + k) * 8 + v)) 128 := inbN hp (by omega)
  have o1 : f_X0_hasOuter (Bd_how a) (nI (1 - sd)) = some (b2i (outB h (1 - sd))) := by rw [H.2.2.1]; exact c_out h hh _ (by omega)
  have o2 : f_X0_hasOuter (Bd_how b) (nI (1 - sd)) = some (b2i (outB h (1 - sd))) := by rw [H.2.2.2.1]; exact c_out h hh _ (by omega)
  rw [ch_eq, ch_eq]
  refine Ok2.bl e1 (Ok2.br e2 (Ok2.bl t1 (Ok2.br t2 (Ok2.bl (c_np sd k v) (Ok2.br (c_np sd k v) (Ok2.lt g (Ok2.lt g (Ok2.rt g (Ok2.rt g ?_)))))))))
  rw [ixN (show (sd * 8 + k) * 8 + v < 2147483648 by omega)]
  have hK' : KE k (upd N1 ((sd * 8 + k) * 8 + v) (N1 ((sd * 8 + k) * 8 + v) + many)) (upd N2 ((sd * 8 + k) * 8 + v) (N2 ((sd * 8 + k) * 8 + v) + many)) := fun s w hs' hw => by
    by_cases e : (s * 8 + k) * 8 + w = (sd * 8 + k) * 8 + v
    · rw [ue e, ue e, hK sd v hs hv]
    · rw [un e, un e]
      exact hK s w hs' hw
  have H' : TW T1 T2 0 (upd N1 ((sd * 8 + k) * 8 + v) (N1 ((sd * 8 + k) * 8 + v) + many)) (upd N2 ((sd * 8 + k) * 8 + v) (N2 ((sd * 8 + k) * 8 + v) + many)) h (Bd_w_nets a (upd (Bd_nets a) ((sd * 8 + k) * 8 + v) (Bd_nets a ((sd * 8 + k) * 8 + v) + many))) (Bd_w_nets b (upd (Bd_nets b) ((sd * 8 + k) * 8 + v) (Bd_nets b ((sd * 8 + k) * 8 + v) + many))) := by
    obtain ⟨q1, q2, q3, q4, q5⟩ := H
    subst q1
    subst q2
    exact ⟨rfl, rfl, q3, q4, q5⟩
  generalize Bd_w_nets a (upd (Bd_nets a) ((sd * 8 + k) * 8 + v) (Bd_nets a ((sd * 8 + k) * 8 + v) + many)) = A at H' ⊢
  generalize Bd_w_nets b (upd (Bd_nets b) ((sd * 8 + k) * 8 + v) (Bd_nets b ((sd * 8 + k) * 8 + v) + many)) = B at H' ⊢
  generalize upd N1 ((sd * 8 + k) * 8 + v) (N1 ((sd * 8 + k) * 8 + v) + many) = M1 at H' hK'
  generalize upd N2 ((sd * 8 + k) * 8 + v) (N2 ((sd * 8 + k) * 8 + v) + many) = M2 at H' hK'
  have u1 : f_X0_thereOf A (nI sd) (nI k) (nI v) = some (th M1 sd k v) := by rw [c_th A hs hk hv, H'.1]
  have u2 : f_X0_thereOf B (nI sd) (nI k) (nI v) = some (th M1 sd k v) := by rw [c_th B hs hk hv, H'.2.1, ke_th hK' hs hv]
  have w1 : f_X0_has A (nI sd) (nI k) = some (b2i (hsB M1 sd k)) := by rw [c_has A hs hk, H'.1]
  have w2 : f_X0_has B (nI sd) (nI k) = some (b2i (hsB M1 sd k)) := by rw [c_has B hs hk, H'.2.1, ke_hs hK' hs]
  refine Ok2.bl u1 (Ok2.br u2 ?_)
  by_cases z : th M1 sd k v - th N1 sd k v = 0
  · obtain ⟨_, _, _, _, d, hd, q1, q2⟩ := H'
    exact Ok2.lt z (Ok2.rt z (Ok2.ret ⟨d, by omega, q1, q2⟩))
  · refine Ok2.lf z (Ok2.rf z (Ok2.bl w1 (Ok2.br w2 ?_)))
    have fin := fun c1 c2 => tw_14 (th M1 sd k v - th N1 sd k v) c1 c2 hs hk hv hh (show 0 ≤ 8 by omega) b1 b2 hK' H'
    unfold tCh
    rw [s1]
    cases hsB N1 sd k with
    | true => exact Ok2.lf b10 (Ok2.rf b10 (fin _ _))
    | false =>
      refine Ok2.lt rfl (Ok2.rt rfl ?_)
      cases hsB M1 sd k with
      | false => exact Ok2.lt rfl (Ok2.rt rfl (fin _ _))
      | true =>
        refine Ok2.lf b10 (Ok2.rf b10 (Ok2.bl o1 (Ok2.br o2 ?_)))
        cases outB h (1 - sd) with
        | false => exact Ok2.lt rfl (Ok2.rt rfl (fin _ _))
        | true => exact Ok2.lf b10 (Ok2.rf b10 (Ok2.b (tw_outers (sd := 1 - sd) (-1 : Int32) (by omega) hk (by omega) (by omega) hK' H') (fun a'' b'' H'' => tw_14 _ false true hs hk hv hh (by omega) b1 b2 hK' H'')))
