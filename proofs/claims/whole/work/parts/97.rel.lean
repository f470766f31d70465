/-! the relation between the class's books and a bank of the reference -/
def le5 : List Nat → Nat
  | [] => 0
  | a :: t => a + 256 * le5 t
def be5 (l : List Nat) : Nat := l.foldl (fun w a => 256 * w + a) 0
def wOK (l : List Nat) : Prop := 0 < l.length ∧ l.length ≤ 5 ∧ ∀ a ∈ l, 97 ≤ a ∧ a ≤ 122
/-- a word, its first letter lowest, beside the same word, its first letter highest -/
def WR (c r : Int64) : Prop := ∃ l : List Nat, wOK l ∧ c = Int64.ofNat (le5 l) ∧ r = Int64.ofNat (be5 l)
/-- a board beside a bank -/
def RBd (b h T : Nat) (bd : BdT) (x : Nat → Int32) : Prop :=
  (∀ i, i < 128 → Bd_nets bd i = xn x b i) ∧ Bd_how bd = nI h ∧ x (6571 * b) = nI h ∧ h < 4 ∧ (∀ i, i < 16 → Bd_turns bd i = x (6571 * b + (1363 + i))) ∧ RLg b (Bd_ledger bd) x T ∧
  (∀ k l r, k < 8 → l < 9 → r < 9 → Bd_sums bd (81 * k + 9 * l + r) = J (Bd_nets bd) h k l r + x (6571 * b + (175 + (81 * k + 9 * l + r))))
def RWd (b kc vc : Nat) (ks vs : WdT) (wd : Nat → Int64) (x : Nat → Int32) : Prop :=
  kc ≤ 8 ∧ vc ≤ 8 ∧ Wd_count ks = nI kc ∧ x (6571 * b + 3) = nI kc ∧ Wd_count vs = nI vc ∧ x (6571 * b + 4) = nI vc ∧ (∀ k, k < kc → WR (Wd_packs ks k) (wd k)) ∧ (∀ k, k < vc → WR (Wd_packs vs k) (wd (8 + k)))
def RMx (b T : Nat) (lg : LgT) (x : Nat → Int32) : Prop := ∃ m, m ≤ T ∧ Lg_most lg = nI m ∧ x (6571 * b + 12) = nI m ∧ (if m = 0 then Lg_actOfMost lg = m2 else Lg_actOfMost lg = x (6571 * b + 14))
def RLv (b : Nat) (nt la : Nat → Int32) (x : Nat → Int32) : Prop :=
  ∀ k, k < 8 → (x (6571 * b + (143 + k)) = nI 0 ∧ la k = m2 ∧ ∀ s v, s < 2 → v < 8 → nt ((s * 8 + k) * 8 + v) = nI 0) ∨ (∃ t, t ≤ 9999 ∧ x (6571 * b + (143 + k)) = nI 1 ∧ x (6571 * b + (151 + k)) = nI t ∧ la k = nI t)
def RTm (b : Nat) (bk : BkT) (x : Nat → Int32) : Prop :=
  (∃ kp, kp ≤ 999 ∧ Bk_keep bk = nI kp ∧ x (6571 * b + 1) = nI kp) ∧ (∃ lt, lt ≤ 999 ∧ Bk_late bk = nI lt ∧ x (6571 * b + 2) = nI lt) ∧ (∃ ck, ck ≤ 9999 ∧ Bk_clock bk = nI ck ∧ x (6571 * b + 5) = nI ck) ∧
  Bk_tooLate bk = x (6571 * b + 7) ∧ Bk_lapsed bk = x (6571 * b + 8) ∧ ∀ k, k < 8 → Bk_lapses bk k = x (6571 * b + (159 + k))
def RKn (b kc vc : Nat) (nt x : Nat → Int32) : Prop :=
  (∀ s k v, s < 2 → k < 8 → v < 8 → nt ((s * 8 + k) * 8 + v) ≠ nI 0 → k < kc ∧ v < vc) ∧
  (∀ k l r, k < 8 → l < 9 → r < 9 → x (6571 * b + (175 + (81 * k + 9 * l + r))) ≠ nI 0 → k < kc ∧ (l < 8 → l < vc) ∧ (r < 8 → r < vc) ∧ (l < 8 ∨ r < 8))
def RSt (b : Nat) (st : StT) (x : Nat → Int32) : Prop :=
  ∃ c, c ≤ 60 ∧ St_count st = nI c ∧ x (6571 * b + 13) = nI c ∧ ∀ j, j < c → ∃ sd k v, sd < 2 ∧ k < 8 ∧ v < 8 ∧ St_sides st j = nI sd ∧ St_keys st j = nI k ∧ St_values st j = nI v ∧ -9 ≤ (St_manies st j).toInt ∧ (St_manies st j).toInt ≤ 9 ∧
    x (6571 * b + (1123 + 4 * j)) = nI sd ∧ x (6571 * b + (1123 + 4 * j + 1)) = nI k ∧ x (6571 * b + (1123 + 4 * j + 2)) = nI v ∧ x (6571 * b + (1123 + 4 * j + 3)) = St_manies st j
def RSb (b T : Nat) (sb : SbT) (x : Nat → Int32) : Prop :=
  ∀ w, w < 4 → (Sb_seen sb w = m1 ∧ x (6571 * b + (1379 + 1298 * w)) = nI 0) ∨ (∃ s, s ≤ T ∧ Sb_seen sb w = nI s ∧ x (6571 * b + (1379 + 1298 * w)) = nI 1 ∧ x (6571 * b + (1379 + 1298 * w + 1)) = nI s ∧
    ∀ r, r < 648 → Sb_holds sb (648 * w + r) = x (6571 * b + (1379 + 1298 * w + (2 + r))) ∧ Sb_differences sb (648 * w + r) = x (6571 * b + (1379 + 1298 * w + (650 + r))))
def RNb (B : Nat) (nt : Nat → Int32) : Prop := ∀ i, i < 128 → -(B : Int) ≤ (nt i).toInt ∧ (nt i).toInt ≤ B
/-- the books beside a bank: kc keys, vc values, T changes sent, nets of at most B -/
def RBk (b kc vc T B : Nat) (bk : BkT) (wd : Nat → Int64) (x : Nat → Int32) : Prop :=
  (∃ h, RBd b h T (Bk_board bk) x) ∧ RWd b kc vc (Bk_keys bk) (Bk_values bk) wd x ∧ RMx b T (Bd_ledger (Bk_board bk)) x ∧ RLv b (Bd_nets (Bk_board bk)) (Bk_latest bk) x ∧ RTm b bk x ∧ RKn b kc vc (Bd_nets (Bk_board bk)) x ∧ RSt b (Bk_store bk) x ∧ RSb b T (Bk_subscribers bk) x ∧ RNb B (Bd_nets (Bk_board bk))
theorem RWd.fr {b kc vc : Nat} {ks vs : WdT} {wd : Nat → Int64} {x y : Nat → Int32} (h : RWd b kc vc ks vs wd x) (e3 : y (6571 * b + 3) = x (6571 * b + 3)) (e4 : y (6571 * b + 4) = x (6571 * b + 4)) : RWd b kc vc ks vs wd y := by
  obtain ⟨h1, h2, h3, h4, h5, h6, h7⟩ := h
  exact ⟨h1, h2, h3, by rw [e3]; exact h4, h5, by rw [e4]; exact h6, h7⟩
theorem RMx.fr {b T : Nat} {lg : LgT} {x y : Nat → Int32} (h : RMx b T lg x) (e : ∀ i, 6571 * b + 12 ≤ i → i < 6571 * b + 15 → y i = x i) : RMx b T lg y := by
  obtain ⟨m, h1, h2, h3, h4⟩ := h
  exact ⟨m, h1, h2, by rw [e _ (by omega) (by omega)]; exact h3, by rw [e _ (by omega) (by omega)]; exact h4⟩
theorem RSt.fr {b : Nat} {st : StT} {x y : Nat → Int32} (h : RSt b st x) (e13 : y (6571 * b + 13) = x (6571 * b + 13)) (e : ∀ i, 6571 * b + 1123 ≤ i → i < 6571 * b + 1363 → y i = x i) : RSt b st y := by
  obtain ⟨c, h1, h2, h3, h4⟩ := h
  refine ⟨c, h1, h2, by rw [e13]; exact h3, fun j hj => ?_⟩
  obtain ⟨sd, k, v, g1, g2, g3, g4, g5, g6, g7, g8, g9, g10, g11, g12⟩ := h4 j hj
  exact ⟨sd, k, v, g1, g2, g3, g4, g5, g6, g7, g8, by rw [e _ (by omega) (by omega)]; exact g9, by rw [e _ (by omega) (by omega)]; exact g10, by rw [e _ (by omega) (by omega)]; exact g11, by rw [e _ (by omega) (by omega)]; exact g12⟩
theorem RSb.fr {b T T' : Nat} {sb : SbT} {x y : Nat → Int32} (h : RSb b T sb x) (hT : T ≤ T') (e : ∀ i, 6571 * b + 1379 ≤ i → i < 6571 * b + 6571 → y i = x i) : RSb b T' sb y := by
  intro w hw
  rcases h w hw with ⟨h1, h2⟩ | ⟨s, h1, h2, h3, h4, h5⟩
  · exact Or.inl ⟨h1, by rw [e _ (by omega) (by omega)]; exact h2⟩
  · exact Or.inr ⟨s, by omega, h2, by rw [e _ (by omega) (by omega)]; exact h3, by rw [e _ (by omega) (by omega)]; exact h4, fun r hr => ⟨by rw [e _ (by omega) (by omega)]; exact (h5 r hr).1, by rw [e _ (by omega) (by omega)]; exact (h5 r hr).2⟩⟩
theorem RTm.fr {b : Nat} {bk : BkT} {x y : Nat → Int32} (h : RTm b bk x) (e : ∀ i, (6571 * b + 1 ≤ i ∧ i < 6571 * b + 9) ∨ (6571 * b + 159 ≤ i ∧ i < 6571 * b + 167) → y i = x i) : RTm b bk y := by
  obtain ⟨⟨kp, a1, a2, a3⟩, ⟨lt, b1, b2, b3⟩, ⟨ck, c1, c2, c3⟩, h4, h5, h6⟩ := h
  exact ⟨⟨kp, a1, a2, by rw [e _ (by omega)]; exact a3⟩, ⟨lt, b1, b2, by rw [e _ (by omega)]; exact b3⟩, ⟨ck, c1, c2, by rw [e _ (by omega)]; exact c3⟩, by rw [e _ (by omega)]; exact h4, by rw [e _ (by omega)]; exact h5, fun k hk => by rw [e _ (by omega)]; exact h6 k hk⟩
theorem RNb.nB {B : Nat} {nt : Nat → Int32} (h : RNb B nt) (hB : B ≤ 100000000) : nB nt := fun i hi => by have := h i hi; omega
theorem RNb.mono {B B' : Nat} {nt : Nat → Int32} (h : RNb B nt) (hB : B ≤ B') : RNb B' nt := fun i hi => by have := h i hi; omega
theorem lpc {S R : Type} {L : Nat → Int32 → S → Option R} {K : S → Option R} (N : Nat) (G : Nat → S) (hd : ∀ n, L (n + 1) (nI N) (G N) = K (G N)) (hs : ∀ n i, i < N → L (n + 1) (nI i) (G i) = L n (nI (i + 1)) (G (i + 1))) {fuel : Nat} (hf : N < fuel) : L fuel (nI 0) (G 0) = K (G N) :=
  lp (L := L) N (fun i t => t = G i) (fun o => o = K (G N)) (fun n t h => by rw [h, hd]) (fun n i t hi h => Or.inr ⟨G (i + 1), rfl, by rw [h]; exact hs n i hi⟩) fuel 0 (G 0) (Nat.zero_le _) (by omega) rfl
/-- a row of J that isn't 0 is of known words -/
theorem J_kn {nt : Nat → Int32} {h k l r kc vc : Nat} (hk : k < 8) (hn : ∀ s v, s < 2 → v < 8 → nt ((s * 8 + k) * 8 + v) ≠ nI 0 → k < kc ∧ v < vc) (hJ : J nt h k l r ≠ nI 0) : k < kc ∧ (l < 8 → l < vc) ∧ (r < 8 → r < vc) ∧ (l < 8 ∨ r < 8) := by
  have ht : ∀ s v, s < 2 → v < 8 → th nt s k v ≠ nI 0 → k < kc ∧ v < vc := fun s v h1 h2 h3 => hn s v h1 h2 (fun e => h3 (by unfold th; rw [e]; rfl))
  unfold J at hJ
  by_cases hl : l < 8
  · rw [if_pos hl] at hJ
    by_cases hr : r < 8
    · rw [if_pos hr] at hJ
      have a1 : th nt 0 k l ≠ nI 0 := fun e => hJ (by rw [e]; exact Int32.zero_mul)
      have a2 : th nt 1 k r ≠ nI 0 := fun e => hJ (by rw [e]; exact Int32.mul_zero)
      exact ⟨(ht 0 l (by omega) hl a1).1, fun _ => (ht 0 l (by omega) hl a1).2, fun _ => (ht 1 r (by omega) hr a2).2, Or.inl hl⟩
    · rw [if_neg hr] at hJ
      by_cases q : (outB h 0 && !hsB nt 1 k) = true
      · rw [if_pos q] at hJ
        exact ⟨(ht 0 l (by omega) hl hJ).1, fun _ => (ht 0 l (by omega) hl hJ).2, fun g => absurd g hr, Or.inl hl⟩
      · rw [if_neg q] at hJ; exact absurd rfl hJ
  · rw [if_neg hl] at hJ
    by_cases hr : r < 8
    · rw [if_pos hr] at hJ
      by_cases q : (outB h 1 && !hsB nt 0 k) = true
      · rw [if_pos q] at hJ
        exact ⟨(ht 1 r (by omega) hr hJ).1, fun g => absurd g hl, fun _ => (ht 1 r (by omega) hr hJ).2, Or.inr hr⟩
      · rw [if_neg q] at hJ; exact absurd rfl hJ
    · rw [if_neg hr] at hJ; exact absurd rfl hJ
