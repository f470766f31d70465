/-! a change: the sums grow as the join does -/
theorem z1 (a : Int32) : a + nI 0 = a := Int32.add_zero a
theorem z2 (a : Int32) : nI 0 + a = a := Int32.zero_add a
theorem z3 (a : Int32) : a - a = nI 0 := Int32.sub_self a
theorem z4 (a : Int32) : a - nI 0 = a := Int32.sub_zero a
theorem z5 (a : Int32) : m1 * a = nI 0 - a := by
  show (-1 : Int32) * a = 0 - a
  rw [Int32.neg_mul, Int32.one_mul, Int32.zero_sub]
theorem z6 (a : Int32) : nI 1 * a = a := Int32.one_mul a
theorem z7 (a : Int32) : a * nI 0 = nI 0 := Int32.mul_zero
theorem z8 (a : Int32) : nI 0 * a = nI 0 := Int32.zero_mul
theorem itr0 {P : Nat → Nat} {c : Nat → Int32} {q : Nat} : ∀ n, (∀ w, w < n → q ≠ P w) → itr (fun w a => a + (if q = P w then c w else nI 0)) (nI 0) n = nI 0
  | 0, _ => rfl
  | n + 1, h => by
    show itr (fun w a => a + (if q = P w then c w else nI 0)) (nI 0) n + (if q = P n then c n else nI 0) = nI 0
    rw [itr0 n (fun w hw => h w (by omega)), if_neg (h n (by omega)), z1]
theorem itr1 {P : Nat → Nat} {c : Nat → Int32} {q w0 : Nat} (e : q = P w0) : ∀ n, w0 < n → (∀ w, w < n → q = P w → w = w0) → itr (fun w a => a + (if q = P w then c w else nI 0)) (nI 0) n = c w0
  | 0, h, _ => absurd h (Nat.not_lt_zero _)
  | n + 1, h, hi => by
    show itr (fun w a => a + (if q = P w then c w else nI 0)) (nI 0) n + (if q = P n then c n else nI 0) = c w0
    by_cases g : w0 = n
    · subst g
      rw [itr0 w0 (fun w hw he => absurd (hi w (by omega) he) (by omega)), if_pos e, z2]
    · rw [itr1 e n (by omega) (fun w hw he => hi w (by omega) he), if_neg (fun he => g (hi n (by omega) he).symm), z1]
theorem th_n {nt : Nat → Int32} {i sd k v : Nat} {a : Int32} (h : (sd * 8 + k) * 8 + v ≠ i) : th (upd nt i a) sd k v = th nt sd k v := by unfold th; rw [un h]
theorem hs_n {nt : Nat → Int32} {i sd k : Nat} {a : Int32} (h : ∀ v, v < 8 → (sd * 8 + k) * 8 + v ≠ i) : hsB (upd nt i a) sd k = hsB nt sd k := by
  unfold hsB
  exact anyB_congr (fun v hv => by rw [un (h v hv)])
theorem hs0 {nt : Nat → Int32} {sd k v : Nat} (h : hsB nt sd k = false) (hv : v < 8) : th nt sd k v = nI 0 := (hsB_th nt sd k).mp h v hv
theorem hs_same {nt : Nat → Int32} {sd k v : Nat} {a : Int32} (hv : v < 8) (h : th (upd nt ((sd * 8 + k) * 8 + v) a) sd k v = th nt sd k v) : hsB (upd nt ((sd * 8 + k) * 8 + v) a) sd k = hsB nt sd k := by
  have e : (hsB (upd nt ((sd * 8 + k) * 8 + v) a) sd k = false) = (hsB nt sd k = false) := by
    rw [hsB_th, hsB_th]
    refine propext ⟨fun g w hw => ?_, fun g w hw => ?_⟩
    · by_cases q : w = v
      · subst q; rw [← h]; exact g w hw
      · rw [← th_n (i := (sd * 8 + k) * 8 + v) (a := a) (by omega)]; exact g w hw
    · by_cases q : w = v
      · subst q; rw [h]; exact g w hw
      · rw [th_n (by omega)]; exact g w hw
  cases e1 : hsB (upd nt ((sd * 8 + k) * 8 + v) a) sd k <;> cases e2 : hsB nt sd k <;> simp [e1, e2] at e ⊢
theorem J_key {nt : Nat → Int32} {h k l r i : Nat} {a : Int32} (hn : ∀ s v, s < 2 → v < 8 → (s * 8 + k) * 8 + v ≠ i) : J (upd nt i a) h k l r = J nt h k l r := by
  unfold J
  rw [hs_n (fun v hv => hn 0 v (by omega) hv), hs_n (fun v hv => hn 1 v (by omega) hv)]
  by_cases hl : l < 8
  · by_cases hr : r < 8
    · rw [if_pos hl, if_pos hl, if_pos hr, if_pos hr, th_n (hn 0 l (by omega) hl), th_n (hn 1 r (by omega) hr)]
    · rw [if_pos hl, if_pos hl, if_neg hr, if_neg hr, th_n (hn 0 l (by omega) hl)]
  · by_cases hr : r < 8
    · rw [if_neg hl, if_neg hl, if_pos hr, if_pos hr, th_n (hn 1 r (by omega) hr)]
    · rw [if_neg hl, if_neg hl, if_neg hr, if_neg hr]
/-- what the three stages of a change add is what the join grows by -/
def chD (nt : Nat → Int32) (h sd k v : Nat) (a : Int32) (q : Nat) : Int32 :=
  (if (!hsB nt sd k && hsB (upd nt ((sd * 8 + k) * 8 + v) a) sd k && outB h (1 - sd)) = true then dO (upd nt ((sd * 8 + k) * 8 + v) a) (1 - sd) k m1 q 8 else nI 0)
  + dR (upd nt ((sd * 8 + k) * 8 + v) a) h sd k v (th (upd nt ((sd * 8 + k) * 8 + v) a) sd k v - th nt sd k v) q
  + (if (hsB nt sd k && !hsB (upd nt ((sd * 8 + k) * 8 + v) a) sd k && outB h (1 - sd)) = true then dO (upd nt ((sd * 8 + k) * 8 + v) a) (1 - sd) k (nI 1) q 8 else nI 0)
theorem dO_0 {nt : Nat → Int32} {sd k q : Nat} {sg : Int32} (h : ∀ w, w < 8 → q ≠ pl sd k w 8) : dO nt sd k sg q 8 = nI 0 := itr0 (P := fun w => pl sd k w 8) (c := fun w => sg * th nt sd k w) 8 h
theorem dO_1 {nt : Nat → Int32} {sd k q w0 : Nat} {sg : Int32} (hw : w0 < 8) (e : q = pl sd k w0 8) (h : ∀ w, w < 8 → q = pl sd k w 8 → w = w0) : dO nt sd k sg q 8 = sg * th nt sd k w0 := itr1 (P := fun w => pl sd k w 8) (c := fun w => sg * th nt sd k w) e 8 hw h
theorem dR_0 {nt : Nat → Int32} {h sd k v q : Nat} {d : Int32} (hq : ∀ w, w < 9 → q ≠ pl sd k v w) : dR nt h sd k v d q = nI 0 := by
  unfold dR
  rw [itr0 (P := fun w => pl sd k v w) (c := fun w => d * th nt (1 - sd) k w) 8 (fun w hw => hq w (by omega)), if_neg (hq 8 (by omega))]
  simp only [ite_self]
theorem dR_1 {nt : Nat → Int32} {h sd k v q w0 : Nat} {d : Int32} (hw : w0 < 8) (e : q = pl sd k v w0) (hq : ∀ w, w < 9 → q = pl sd k v w → w = w0) : dR nt h sd k v d q = d * th nt (1 - sd) k w0 := by
  unfold dR
  rw [itr1 (P := fun w => pl sd k v w) (c := fun w => d * th nt (1 - sd) k w) e 8 hw (fun w h2 h3 => hq w (by omega) h3), if_neg (fun g => absurd (hq 8 (by omega) g) (by omega))]
  simp only [ite_self]
  cases g : hsB nt (1 - sd) k with
  | true => exact if_pos rfl
  | false =>
    rw [hs0 g hw, z7]
    simp only [ite_self]
theorem dR_8 {nt : Nat → Int32} {h sd k v q : Nat} {d : Int32} (e : q = pl sd k v 8) (hq : ∀ w, w < 8 → q ≠ pl sd k v w) : dR nt h sd k v d q = if (outB h sd && !hsB nt (1 - sd) k) = true then d else nI 0 := by
  unfold dR
  rw [itr0 (P := fun w => pl sd k v w) (c := fun w => d * th nt (1 - sd) k w) 8 hq, if_pos e]
  cases hsB nt (1 - sd) k <;> cases outB h sd <;> rfl
theorem chD_J {nt : Nat → Int32} {h sd k v k' l r : Nat} {a : Int32} (hs : sd < 2) (hk : k < 8) (hv : v < 8) (hk' : k' < 8) (hl : l < 9) (hr : r < 9) :
    chD nt h sd k v a (81 * k' + 9 * l + r) = J (upd nt ((sd * 8 + k) * 8 + v) a) h k' l r - J nt h k' l r := by
  unfold chD
  by_cases ek : k' = k
  · subst ek
    have hother : hsB (upd nt ((sd * 8 + k') * 8 + v) a) (1 - sd) k' = hsB nt (1 - sd) k' := hs_n (fun w hw => by omega)
    have tother : ∀ w, w < 8 → th (upd nt ((sd * 8 + k') * 8 + v) a) (1 - sd) k' w = th nt (1 - sd) k' w := fun w hw => th_n (by omega)
    have town : ∀ w, w < 8 → w ≠ v → th (upd nt ((sd * 8 + k') * 8 + v) a) sd k' w = th nt sd k' w := fun w hw hne => th_n (by omega)
    rcases (show sd = 0 ∨ sd = 1 by omega) with e | e
    · subst e
      have hother : hsB (upd nt ((0 * 8 + k') * 8 + v) a) 1 k' = hsB nt 1 k' := hother
      have tother : ∀ w, w < 8 → th (upd nt ((0 * 8 + k') * 8 + v) a) 1 k' w = th nt 1 k' w := tother
      show (if _ then dO _ 1 k' m1 _ 8 else nI 0) + _ + (if _ then dO _ 1 k' (nI 1) _ 8 else nI 0) = _
      unfold J
      by_cases g1 : l < 8
      · rw [dO_0 (fun w hw => by unfold pl; simp; omega), dO_0 (fun w hw => by unfold pl; simp; omega)]
        simp only [ite_self, z1, z2, if_pos g1]
        by_cases g2 : r < 8
        · simp only [if_pos g2]
          by_cases g3 : l = v
          · subst g3
            rw [dR_1 (w0 := r) g2 (by unfold pl; simp) (fun w hw => by unfold pl; simp; omega), tother r g2, Int32.sub_mul]
          · rw [dR_0 (fun w hw => by unfold pl; simp; omega), town l g1 g3, tother r g2, z3]
        · have g2' : r = 8 := by omega
          subst g2'
          simp only [if_neg g2, hother]
          by_cases g3 : l = v
          · subst g3
            rw [dR_8 (by unfold pl; simp) (fun w hw => by unfold pl; simp; omega)]
            rw [show (1 - 0) = 1 from rfl, hother]
            cases (outB h 0 && !hsB nt 1 k')
            · simp [z3] <;> rfl
            · simp
          · rw [dR_0 (fun w hw => by unfold pl; simp; omega), town l g1 g3, z3]
      · have g1' : l = 8 := by omega
        subst g1'
        rw [dR_0 (fun w hw => by unfold pl; simp; omega)]
        simp only [z1, if_neg g1]
        by_cases g2 : r < 8
        · simp only [if_pos g2]
          rw [dO_1 (w0 := r) g2 (by unfold pl; simp) (fun w hw => by unfold pl; simp; omega), dO_1 (w0 := r) g2 (by unfold pl; simp) (fun w hw => by unfold pl; simp; omega), tother r g2, z5, z6]
          show _ = (if (outB h 1 && !hsB (upd nt ((0 * 8 + k') * 8 + v) a) 0 k') = true then th nt 1 k' r else nI 0) - _
          show (if (!hsB nt 0 k' && hsB (upd nt ((0 * 8 + k') * 8 + v) a) 0 k' && outB h 1) = true then nI 0 - th nt 1 k' r else nI 0) + (if (hsB nt 0 k' && !hsB (upd nt ((0 * 8 + k') * 8 + v) a) 0 k' && outB h 1) = true then th nt 1 k' r else nI 0) = _
          cases hsB nt 0 k' <;> cases hsB (upd nt ((0 * 8 + k') * 8 + v) a) 0 k' <;> cases outB h 1 <;> simp [z1, z2, z3, z4] <;> rfl
        · simp only [if_neg g2]
          rw [dO_0 (fun w hw => by unfold pl; simp; omega), dO_0 (fun w hw => by unfold pl; simp; omega)]
          simp only [ite_self, z1, z3]
    · subst e
      have hother : hsB (upd nt ((1 * 8 + k') * 8 + v) a) 0 k' = hsB nt 0 k' := hother
      have tother : ∀ w, w < 8 → th (upd nt ((1 * 8 + k') * 8 + v) a) 0 k' w = th nt 0 k' w := tother
      show (if _ then dO _ 0 k' m1 _ 8 else nI 0) + _ + (if _ then dO _ 0 k' (nI 1) _ 8 else nI 0) = _
      unfold J
      by_cases g2 : r < 8
      · rw [dO_0 (fun w hw => by unfold pl; simp; omega), dO_0 (fun w hw => by unfold pl; simp; omega)]
        simp only [ite_self, z1, z2, if_pos g2]
        by_cases g1 : l < 8
        · simp only [if_pos g1]
          by_cases g3 : r = v
          · subst g3
            rw [dR_1 (w0 := l) g1 (by unfold pl; simp) (fun w hw => by unfold pl; simp; omega)]
            rw [show (1 - 1) = 0 from rfl, tother l g1, Int32.sub_mul, Int32.mul_comm, Int32.mul_comm (th nt 1 k' r)]
          · rw [dR_0 (fun w hw => by unfold pl; simp; omega), town r g2 g3, tother l g1, z3]
        · have g1' : l = 8 := by omega
          subst g1'
          simp only [if_neg g1, hother]
          by_cases g3 : r = v
          · subst g3
            rw [dR_8 (by unfold pl; simp) (fun w hw => by unfold pl; simp; omega)]
            rw [show (1 - 1) = 0 from rfl, hother]
            cases (outB h 1 && !hsB nt 0 k')
            · simp [z3] <;> rfl
            · simp
          · rw [dR_0 (fun w hw => by unfold pl; simp; omega), town r g2 g3, z3]
      · have g2' : r = 8 := by omega
        subst g2'
        rw [dR_0 (fun w hw => by unfold pl; simp; omega)]
        simp only [z1, if_neg g2]
        by_cases g1 : l < 8
        · simp only [if_pos g1]
          rw [dO_1 (w0 := l) g1 (by unfold pl; simp) (fun w hw => by unfold pl; simp; omega), dO_1 (w0 := l) g1 (by unfold pl; simp) (fun w hw => by unfold pl; simp; omega), tother l g1, z5, z6]
          show (if (!hsB nt 1 k' && hsB (upd nt ((1 * 8 + k') * 8 + v) a) 1 k' && outB h 0) = true then nI 0 - th nt 0 k' l else nI 0) + (if (hsB nt 1 k' && !hsB (upd nt ((1 * 8 + k') * 8 + v) a) 1 k' && outB h 0) = true then th nt 0 k' l else nI 0) = _
          cases hsB nt 1 k' <;> cases hsB (upd nt ((1 * 8 + k') * 8 + v) a) 1 k' <;> cases outB h 0 <;> simp [z1, z2, z3, z4] <;> rfl
        · simp only [if_neg g1]
          rw [dO_0 (fun w hw => by unfold pl; simp; omega), dO_0 (fun w hw => by unfold pl; simp; omega)]
          simp only [ite_self, z1, z3]
  · rw [J_key (fun s w h1 h2 => by omega), z3, dR_0 (fun w hw => by unfold pl; split <;> omega)]
    rw [dO_0 (fun w hw => by unfold pl; split <;> omega), dO_0 (fun w hw => by unfold pl; split <;> omega)]
    simp only [ite_self, z1]
