/-! a row spelt on both sides -/
theorem let_c (w : WdT) {c k : Nat} {l : List Nat} (hc : c ≤ 8) (hcnt : Wd_count w = nI c) (hk : k < c) (hl : wOK l) (e1 : Wd_packs w k = Int64.ofNat (le5 l)) : ∀ i, i < 5 → f_X7_letterAt w (nI k) (nI i) = some (nI (l.getD i 0)) := fun i hi => by
  have kn := (knows2 w (nI k) hc hcnt).1 ⟨k, hk, rfl⟩
  have hK : inb (nI k) 8 := inbN (by omega) (by omega)
  have hKx : ix (nI k) = k := ixN (by omega)
  have n0 : ¬ nI i < (0 : Int32) := nI_nlt (b := 0) (Nat.zero_le _) (by omega)
  unfold f_X7_letterAt
  refine eb kn ((if_neg (by decide)).trans ((if_neg n0).trans ((if_pos ((ltN (b := 5) (by omega) (by omega)).mpr hi)).trans ((if_pos hK).trans ?_))))
  rw [hKx, e1, w_c hl (by omega)]
def AL (tx : List Int32) : Prop := ∀ c ∈ tx, ∃ a, a < 128 ∧ c = nI a
theorem AL.ap {a b : List Int32} (h1 : AL a) (h2 : AL b) : AL (a ++ b) := fun c hc => by
  rcases List.mem_append.mp hc with h | h
  · exact h1 c h
  · exact h2 c h
theorem AL.one {a : Nat} (h : a < 128) : AL [nI a] := fun c hc => ⟨a, h, List.mem_singleton.mp hc⟩
theorem AL.wd {l : List Nat} (h : wOK l) : AL (l.map nI) := fun c hc => by
  obtain ⟨a, ha, e⟩ := List.mem_map.mp hc
  exact ⟨a, by have := h.2.2 a ha; omega, e.symm⟩
theorem AL.dN : ∀ (c m : Nat), AL (dN c m)
  | 0, _ => fun c hc => by cases hc
  | c + 1, m => AL.ap (AL.dN c (m / 10)) (AL.one (by omega))
theorem AL.dg (v : Int32) : AL (dg v) := by
  show AL ((if v < 0 then [(45 : Int32)] else []) ++ _)
  refine AL.ap ?_ (AL.dN _ _)
  by_cases q : v < 0
  · rw [if_pos q]
    exact AL.one (a := 45) (by omega)
  · rw [if_neg q]
    exact fun c hc => by cases hc
theorem ch_b : ∀ a, a < 128 → (((nI a) &&& 255).toUInt32 % 65536).toInt32 = nI a := by decide
theorem sp_wd {sm : MoT} {fk fl fr : Int32} {w : WdT} {b c k : Nat} {tx : List Int32} {t : MoT} (hb : b ≤ 1) (hc : c ≤ 8) (hcnt : Wd_count w = nI c) (hk : k < c) (hw : WR (Wd_packs w k) (Mo_words sm (8 * b + k))) (h : Sp sm fk fl fr tx t) (ht : tx.length + 5 ≤ 34) (ha : AL tx) :
    ∃ tx' t', tx'.length ≤ tx.length + 5 ∧ f_ap w (nI k) tx = some tx' ∧ f_X9_spellsWord t (nI b) (nI k) = some t' ∧ Sp sm fk fl fr tx' t' ∧ AL tx' := by
  obtain ⟨l, hl, e1, e2⟩ := hw
  obtain ⟨t', w1, w2⟩ := r_word hb (by omega) hl e2 h (by omega)
  refine ⟨tx ++ l.map nI, t', ?_, ap_w w (by omega) hl (let_c w hc hcnt hk hl e1) ht, w1, w2, AL.ap ha (AL.wd hl)⟩
  rw [List.length_append, List.length_map]
  have := hl.2.1
  omega
theorem sp_vl {sm : MoT} {fk fl fr : Int32} {w : WdT} {c k : Nat} {tx : List Int32} {t : MoT} (hc : c ≤ 8) (hcnt : Wd_count w = nI c) (hk9 : k < 9) (hk : k < 8 → k < c) (hw : ∀ k, k < c → WR (Wd_packs w k) (Mo_words sm (8 + k))) (h : Sp sm fk fl fr tx t) (ht : tx.length + 5 ≤ 34) (ha : AL tx) :
    ∃ tx' t', tx'.length ≤ tx.length + 5 ∧ f_ap w (tl k) tx = some tx' ∧ f_X9_spellsWord t (1 : Int32) (nI k) = some t' ∧ Sp sm fk fl fr tx' t' ∧ AL tx' := by
  by_cases e : k = 8
  · subst e
    obtain ⟨t', w1, w2⟩ := r_dash (p := (1 : Int32)) h (by omega)
    exact ⟨tx ++ [(45 : Int32)], t', by rw [List.length_append]; exact Nat.add_le_add_left (show 1 ≤ 5 by omega) _, ap_d w (by omega), w1, w2, AL.ap ha (AL.one (a := 45) (by omega))⟩
  · have e2 : tl k = nI k := if_neg e
    rw [e2]
    exact sp_wd (b := 1) (by omega) hc hcnt (hk (by omega)) (hw k (hk (by omega))) h ht ha
theorem sp_ch {sm : MoT} {fk fl fr : Int32} {a : Nat} {tx : List Int32} {t : MoT} (ha : a < 128) (h : Sp sm fk fl fr tx t) (ht : tx.length < 34) (hA : AL tx) : ∃ tx' t', tx'.length = tx.length + 1 ∧ f_ch (nI a) tx = some tx' ∧ f_X9_spells t (nI a) = some t' ∧ Sp sm fk fl fr tx' t' ∧ AL tx' := by
  have n8 : ∀ a, a < 128 → (¬ (255 : Int32) < nI a) ∧ (nI a).toInt8.toInt32 = nI a := by decide
  obtain ⟨t', w1, w2⟩ := r_spells h (by omega) (nI a)
  refine ⟨tx ++ [nI a], t', by rw [List.length_append]; rfl, ?_, w1, w2, AL.ap hA (AL.one ha)⟩
  rw [f_ch1 ht (n8 a ha).1, (n8 a ha).2]
def numT (s : MoT) (y : Int64) : Option MoT := f_X9_spellsNumber_L26_18 y (fun x4 => f_X9_spellsNumber_L48_11 y (fun s => some s) 10000 x4 s) 10000 (1 : Int64)
theorem num_p (s : MoT) {v : Int32} (h : 0 ≤ v) : f_X9_spellsNumber s v = numT s v.toInt64 := by
  unfold f_X9_spellsNumber
  exact eg ((if_pos h).trans (eg ((if_pos h).trans (eg rfl))))
theorem num_n (s : MoT) {v : Int32} (h : ¬ 0 ≤ v) : f_X9_spellsNumber s v = (f_X9_spells s (45 : Int32)).bind fun r => numT r (-v.toInt64) := by
  unfold f_X9_spellsNumber
  refine eg ((if_neg h).trans ?_)
  congr 1
  funext r
  exact eg ((if_neg h).trans (eg rfl))
theorem r_numT {sm : MoT} {fk fl fr : Int32} {m : Nat} {tx : List Int32} {t : MoT} (hm : m < 10000000000) (h : Sp sm fk fl fr tx t) (ht : tx.length + 10 ≤ 60) : ∃ t', numT t (wN m) = some t' ∧ Sp sm fk fl fr (tx ++ dN (sz m) m) t' := by
  have z := sz_le m
  obtain ⟨t', w1, w2⟩ := n_dn hm (fun s => some s) (sz m) 10000 tx t z.2 (by omega) (by omega) h
  refine ⟨t', ?_, w2⟩
  unfold numT
  exact (n_up hm _ (sz m - 1) 0 10000 (by omega) (by omega)).trans w1
theorem r_num {sm : MoT} {fk fl fr : Int32} {tx : List Int32} {t : MoT} (h : Sp sm fk fl fr tx t) (ht : tx.length + 11 ≤ 60) (v : Int32) : ∃ t', f_X9_spellsNumber t v = some t' ∧ Sp sm fk fl fr (tx ++ dg v) t' := by
  have hb := v_b v
  by_cases q : v < 0
  · have q' : v.toInt < 0 := (Int32.lt_iff_toInt_lt).mp q
    have q0 : ¬ (0 : Int32) ≤ v := by rw [leI, show (0 : Int32).toInt = 0 by decide]; omega
    have ed : tx ++ dg v = (tx ++ [(45 : Int32)]) ++ dN (sz v.toInt.natAbs) v.toInt.natAbs := by
      unfold dg
      rw [if_pos q, List.append_assoc]
    obtain ⟨t1, w1, w2⟩ := r_spells h (by omega) (45 : Int32)
    obtain ⟨t', w3, w4⟩ := r_numT (m := v.toInt.natAbs) (by omega) w2 (by rw [List.length_append]; show tx.length + 1 + 10 ≤ 60; omega)
    have e64 : -v.toInt64 = wN v.toInt.natAbs := by
      apply Int64.toInt_inj.mp
      rw [Int64.toInt_neg, Int32.toInt_toInt64, w_int (by omega), Int.bmod_eq_of_le (by omega) (by omega)]
      omega
    rw [ed]
    refine ⟨t', ?_, w4⟩
    rw [num_n t q0, e64]
    exact eb w1 w3
  · have q' : ¬ v.toInt < 0 := fun h => q ((Int32.lt_iff_toInt_lt).mpr h)
    have q0 : (0 : Int32) ≤ v := by rw [leI, show (0 : Int32).toInt = 0 by decide]; omega
    have ed : dg v = dN (sz v.toInt.natAbs) v.toInt.natAbs := by
      unfold dg
      rw [if_neg q]
      rfl
    obtain ⟨t', w3, w4⟩ := r_numT (m := v.toInt.natAbs) (by omega) h (by omega)
    have e64 : v.toInt64 = wN v.toInt.natAbs := by
      apply Int64.toInt_inj.mp
      rw [Int32.toInt_toInt64, w_int (by omega)]
      omega
    rw [ed]
    refine ⟨t', ?_, w4⟩
    rw [num_p t q0, e64]
    exact w3
theorem pl_kn {n kc vc : Nat} {s : OuBT} {sm : MoT} (h : RB n kc vc s sm) {p : Nat} (hp : p < 648) (hne : Bd_sums (Bk_board (OuB_books s)) p ≠ nI 0) : p / 81 < kc ∧ (p / 9 % 9 < 8 → p / 9 % 9 < vc) ∧ (p % 9 < 8 → p % 9 < vc) := by
  obtain ⟨_, _, _, T, _, hR⟩ := h
  obtain ⟨⟨g, hBd⟩, _, _, _, _, hKn, _⟩ := hR
  have e := hBd.2.2.2.2.2.2 (p / 81) (p / 9 % 9) (p % 9) (by omega) (by omega) (by omega)
  rw [show 81 * (p / 81) + 9 * (p / 9 % 9) + p % 9 = p by omega] at e
  by_cases j : J (Bd_nets (Bk_board (OuB_books s))) g (p / 81) (p / 9 % 9) (p % 9) = nI 0
  · have c : Mo_x sm (6571 * 0 + (175 + (81 * (p / 81) + 9 * (p / 9 % 9) + p % 9))) ≠ nI 0 := fun z => hne (by rw [show 81 * (p / 81) + 9 * (p / 9 % 9) + p % 9 = p by omega] at z; rw [e, j, z]; rfl)
    have := hKn.2 (p / 81) (p / 9 % 9) (p % 9) (by omega) (by omega) (by omega) c
    exact ⟨this.1, this.2.1, this.2.2.1⟩
  · have := J_kn (kc := kc) (vc := vc) (by omega) (fun s v hs hv hz => hKn.1 s (p / 81) v hs (by omega) hv hz) j
    exact ⟨this.1, this.2.1, this.2.2.1⟩
theorem pl_at {p : Nat} (hp : p < 648) : f_X8_keyOfPlace (nI p) = some (nI (p / 81)) ∧ f_X8_leftOfPlace (nI p) = some (tl (p / 9 % 9)) ∧ f_X8_rightOfPlace (nI p) = some (tl (p % 9)) := by
  have e1 : nI p / (81 : Int32) = nI (p / 81) := by
    rw [show (81 : Int32) = nI 81 from rfl, divN (by omega) (by omega) (by omega)]
  have e2 : irem (nI p / (9 : Int32)) (9 : Int32) = nI (p / 9 % 9) := by
    rw [show (9 : Int32) = nI 9 from rfl, divN (by omega) (by omega) (by omega), remN (by omega) (by omega) (by omega)]
  have e3 : irem (nI p) (9 : Int32) = nI (p % 9) := by
    rw [show (9 : Int32) = nI 9 from rfl, remN (by omega) (by omega) (by omega)]
  refine ⟨congrArg some e1, ?_, ?_⟩
  · unfold f_X8_leftOfPlace
    rw [e2]
    exact r_told _ (by omega)
  · unfold f_X8_rightOfPlace
    rw [e3]
    exact r_told _ (by omega)
theorem st_spell (n : Nat) (p1 p2 : Int32) : StpR n (fun cs => fc_spell dg cs p1 p2) (fun sm => f_X9_spell sm p1 p2) := stp1 (fN := fun s => f_X8_spell_N s p1 p2) (fB := fun s => f_spell dg s p1 p2) (fun _ => rfl) (fun _ => rfl) (fun _ _ => rfl)
  (fun sm s h => by
    have nf : f_X9_isFound (mT sm) p1 = some (0, mT sm) := if_pos ((isThere_mT sm).trans h.2.2.2.1)
    unfold f_X9_spell
    by_cases q : p2 < 0
    · exact fin_n h _ 1 tr1 rfl ((if_pos q).trans rfl)
    · exact fin_n h _ 1 tr1 rfl ((if_neg q).trans (eb nf rfl)))
  (fun hn sm s kc vc h => by
    by_cases q : p2 < 0
    · have q0 : ¬ (0 : Int32) ≤ p2 := Int32.not_le.mpr q
      exact fin_r h (-1) 1 tr1 (if_neg q0) ((if_pos q).trans rfl)
    · have q0 : (0 : Int32) ≤ p2 := Int32.not_lt.mp q
      rcases row_f hn h p1 with ⟨p, s', hp, hne, c1, d1, hc, hx, g1, g2, g3, hlr, hs⟩ | ⟨c1, s', d1, hc, hx⟩
      · have nr1 : ¬ nI p = (-1 : Int32) := fun e => (m1E (n := p) (by omega)).mp e
        have hI : inb (nI p) 648 := inbN hp (by omega)
        obtain ⟨k1, k2, k3⟩ := pl_kn h hp hne
        obtain ⟨a1, a2, a3⟩ := pl_at hp
        have hR := h.2.2.2
        obtain ⟨T, _, _, ⟨w1, w2, w3, w4, w5, w6, w7, w8⟩, _⟩ := hR
        have S0 : Sp sm (nI (p / 81)) (nI (p / 9 % 9)) (nI (p % 9)) [] (Mo_w_speltMany s' (0 : Int32)) := ⟨⟨(q_words_speltMany _ _).trans hc.1, (q_tape_speltMany _ _).trans hc.2.1, (q_taped_speltMany _ _).trans hc.2.2.1, (q_isThere_speltMany _ _).trans hc.2.2.2.1, (q_hasImage_speltMany _ _).trans hc.2.2.2.2.1, (q_fault_speltMany _ _).trans hc.2.2.2.2.2⟩, (q_x_speltMany _ _).trans hx, (q_foundKey_speltMany _ _).trans g1, (q_foundLeft_speltMany _ _).trans g2, (q_foundRight_speltMany _ _).trans g3, q_speltMany_speltMany _ _, fun j hj => absurd hj (Nat.not_lt_zero _)⟩
        have w7' : WR (Wd_packs (Bk_keys (OuB_books s)) (p / 81)) (Mo_words sm (8 * 0 + p / 81)) := by
          rw [show 8 * 0 + p / 81 = p / 81 by omega]
          exact w7 _ k1
        obtain ⟨x1, t1, l1, y1, z1, S1, A1⟩ := sp_wd (b := 0) (by omega) w1 w3 k1 w7' S0 (show 0 + 5 ≤ 34 by omega) (fun c hc => by cases hc)
        have l1 : x1.length ≤ 0 + 5 := l1
        obtain ⟨x2, t2, l2, y2, z2, S2, A2⟩ := sp_ch (a := 58) (by omega) S1 (by omega) A1
        obtain ⟨x3, t3, l3, y3, z3, S3, A3⟩ := sp_vl w2 w5 (show p / 9 % 9 < 9 by omega) k2 w8 S2 (by omega) A2
        obtain ⟨x4, t4, l4, y4, z4, S4, A4⟩ := sp_ch (a := 124) (by omega) S3 (by omega) A3
        obtain ⟨x5, t5, l5, y5, z5, S5, A5⟩ := sp_vl w2 w5 (show p % 9 < 9 by omega) k3 w8 S4 (by omega) A4
        obtain ⟨x6, t6, l6, y6, z6, S6, A6⟩ := sp_ch (a := 42) (by omega) S5 (by omega) A5
        obtain ⟨t7, z7, S7⟩ := r_num S6 (by omega) (Bd_sums (Bk_board (OuB_books s)) p)
        have A7 := AL.ap A6 (AL.dg (Bd_sums (Bk_board (OuB_books s)) p))
        have dl := dg_le (Bd_sums (Bk_board (OuB_books s)) p)
        have ft : f_text dg (OuB_books s) (nI p) = some (x6 ++ dg (Bd_sums (Bk_board (OuB_books s)) p)) := by
          unfold f_text
          rw [ixN (show p < 2147483648 by omega)]
          exact eb a1 (eb y1 (eb y2 (eb a2 (eb y3 (eb y4 (eb a3 (eb y5 (eb y6 ((if_pos hI).trans (if_pos (by omega)))))))))))
        have hlen : (x6 ++ dg (Bd_sums (Bk_board (OuB_books s)) p)).length < 35 := by rw [List.length_append]; omega
        generalize x6 ++ dg (Bd_sums (Bk_board (OuB_books s)) p) = TX at S7 A7 ft hlen
        obtain ⟨u1, u2, u3, u4, u5, u6, u7⟩ := S7
        have rf : ∀ {R : Option (Int32 × MoT)}, (if (Mo_speltMany t7) ≤ p2 then (f_X9_good t7 (-1 : Int32)).bind fun r24 => some ((r24.1), (r24.2)) else if inb p2 64 then (f_X9_good t7 ((Mo_spelt t7) (ix p2))).bind fun r27 => some ((r27.1), (r27.2)) else none) = R → f_X9_spell sm p1 p2 = R := fun {R} hh => by
          unfold f_X9_spell
          refine (if_neg q).trans (eb d1 ((if_neg (show ¬ (1 : Int32) = 0 by decide)).trans ?_))
          show ((f_X9_spellsWord (Mo_w_speltMany s' (0 : Int32)) (0 : Int32) (Mo_foundKey s')).bind _) = R
          rw [g1]
          refine eb z1 (eb z2 ?_)
          rw [S2.2.2.2.1]
          refine eb z3 (eb z4 ?_)
          rw [S4.2.2.2.2.1]
          refine eb z5 (eb z6 ?_)
          rw [S6.2.2.1, S6.2.2.2.1, S6.2.2.2.2.1]
          exact eb (hs t6 S6.2.1) (eb z7 hh)
        by_cases c : nI TX.length ≤ p2
        · refine fin_gs h u1 (fun i _ => congrFun u2 i) (-1) ((if_pos q0).trans (eb c1 ((if_neg nr1).trans (eb ft ((if_pos c).trans rfl))))) (rf ?_)
          rw [u6]
          exact (if_pos c).trans rfl
        · rcases pk_ix p2 (n := TX.length) (by omega) with d | d | ⟨j, hj, rfl⟩
          · exact absurd d q
          · exact absurd d c
          · obtain ⟨a, ha, ea⟩ := A7 (TX.getD j 0) (by rw [List.getD_eq_getElem?_getD, List.getElem?_eq_getElem hj]; exact List.getElem_mem hj)
            have ib : inb (nI j) 64 := inbN (by omega) (by omega)
            have ej : ix (nI j) = j := ixN (by omega)
            refine fin_gs h u1 (fun i _ => congrFun u2 i) (nI a) ((if_pos q0).trans (eb c1 ((if_neg nr1).trans (eb ft ((if_neg c).trans ?_))))) (rf ?_)
            · rw [ej, ea, ch_b a ha]
              rfl
            · rw [u6, ej, u7 j hj, ea]
              exact (if_neg c).trans ((if_pos ib).trans rfl)
      · exact fin_rs h hc (fun i _ => congrFun hx i) (-1) 1 tr1 ((if_pos q0).trans (eb c1 ((if_pos rfl).trans rfl))) ((if_neg q).trans (eb d1 ((if_pos rfl).trans rfl))))
