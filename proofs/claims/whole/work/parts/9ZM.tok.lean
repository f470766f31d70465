/-! one token on both sides -/
theorem c_skip (K : TpT → Option TpT) (tp : TpT) {n p p' : Nat} (hn : n ≤ 900) (he : Tp_end tp = nI n) (ha : Tp_at tp = nI p) (h1 : p ≤ p') (h2 : p' ≤ n) (h3 : ∀ j, p ≤ j → j < p' → Tp_bytes tp j = nI 32) (h4 : p' < n → ¬ Tp_bytes tp p' = nI 32) : f_X6_next_L0_19 K 10000 tp = K (Tp_w_at tp (nI p')) := by
  have e0 : Tp_w_at tp (nI p) = tp := (congrArg (Tp_w_at tp) ha).symm
  refine Eq.trans (congrArg (f_X6_next_L0_19 K 10000) e0.symm) ?_
  refine runL (fun f j => f_X6_next_L0_19 K f (Tp_w_at tp (nI j))) _ ?_ ?_ 10000 p (Nat.le_refl _) h1 (by omega)
  · intro f j b1 b2
    show f_X6_next_L0_19 K (f + 1) (Tp_w_at tp (nI j)) = f_X6_next_L0_19 K f (Tp_w_at tp (nI (j + 1)))
    rw [f_X6_next_L0_19]
    have g1 : ¬ Tp_end tp ≤ nI j := by rw [he]; exact nI_ge (by omega) (by omega)
    have g2 : inb (nI j) 900 := inbN (by omega) (by omega)
    have g3 : Tp_bytes tp (ix (nI j)) = nI 32 := by rw [ixN (by omega)]; exact h3 j b1 b2
    refine (if_neg g1).trans ((if_pos g2).trans ((if_pos g3).trans ?_))
    show f_X6_next_L0_19 K f (Tp_w_at tp (nI j + 1)) = _
    rw [nI_1]
  · intro f
    show f_X6_next_L0_19 K (f + 1) (Tp_w_at tp (nI p')) = _
    rw [f_X6_next_L0_19]
    by_cases q : p' < n
    · have g1 : ¬ Tp_end tp ≤ nI p' := by rw [he]; exact nI_ge (by omega) (by omega)
      have g2 : inb (nI p') 900 := inbN (by omega) (by omega)
      have g3 : ¬ Tp_bytes tp (ix (nI p')) = nI 32 := by rw [ixN (by omega)]; exact h4 q
      exact (if_neg g1).trans ((if_pos g2).trans (if_neg g3))
    · have g1 : Tp_end tp ≤ nI p' := by rw [he]; exact nI_le (by omega) (by omega)
      exact if_pos g1
theorem r_skip (K : MoT → Option MoT) (t : MoT) {n p p' : Nat} {tk a nu f : Int32} {w : Int64} {q : QT} (hn : n ≤ 900) (hz : Mo_size t = nI n) (hb : ∀ j, j < 900 → isBy (Mo_tape t j)) (h1 : p ≤ p') (h2 : p' ≤ n) (h3 : ∀ j, p ≤ j → j < p' → Mo_tape t j = nI 32) (h4 : p' < n → ¬ Mo_tape t p' = nI 32) : f_X9_next_L8_21 K 10000 (ps t (nI p) tk a nu f w q) = K (ps t (nI p') tk a nu f w q) := by
  refine runL (fun g j => f_X9_next_L8_21 K g (ps t (nI j) tk a nu f w q)) _ ?_ ?_ 10000 p (Nat.le_refl _) h1 (by omega)
  · intro g j b1 b2
    show f_X9_next_L8_21 K (g + 1) (ps t (nI j) tk a nu f w q) = f_X9_next_L8_21 K g (ps t (nI (j + 1)) tk a nu f w q)
    rw [f_X9_next_L8_21]
    have g1 : f_X9_byteAt (ps t (nI j) tk a nu f w q) (nI j) = some (Mo_tape t j &&& (255 : Int32)) := byte_at (n := n) hz (by omega) hn
    have g2 : Mo_tape t j &&& (255 : Int32) = nI 32 := (by_eq (hb j (by omega)) (by omega)).mpr (h3 j b1 b2)
    refine eb g1 ((if_pos g2).trans ?_)
    show f_X9_next_L8_21 K g (ps t (nI j + 1) tk a nu f w q) = _
    rw [nI_1]
  · intro g
    show f_X9_next_L8_21 K (g + 1) (ps t (nI p') tk a nu f w q) = _
    rw [f_X9_next_L8_21]
    by_cases e : p' < n
    · have g1 : f_X9_byteAt (ps t (nI p') tk a nu f w q) (nI p') = some (Mo_tape t p' &&& (255 : Int32)) := byte_at (n := n) hz (by omega) hn
      have g2 : ¬ Mo_tape t p' &&& (255 : Int32) = nI 32 := fun c => h4 e ((by_eq (hb p' (by omega)) (by omega)).mp c)
      exact eb g1 (if_neg g2)
    · have g1 : f_X9_byteAt (ps t (nI p') tk a nu f w q) (nI p') = some m1 := byte_end (n := n) hz (by omega) (by omega)
      have g2 : ¬ m1 = nI 32 := by decide
      exact eb g1 (if_neg g2)
theorem c_run (K : TpT → Option (Int32 × TpT)) (tp : TpT) {n p p' lo hi : Nat} (hl : lo < 128) (hh : hi < 128) (hn : n ≤ 900) (he : Tp_end tp = nI n) (ha : Tp_at tp = nI p) (h1 : p ≤ p') (h2 : p' ≤ n) (h3 : ∀ j, p ≤ j → j < p' → inR lo hi (Tp_bytes tp j)) (h4 : p' < n → ¬ inR lo hi (Tp_bytes tp p')) : f_X6_passRun_L0_5 (nI lo) (nI hi) K 10000 tp = K (Tp_w_at tp (nI p')) := by
  have e0 : Tp_w_at tp (nI p) = tp := (congrArg (Tp_w_at tp) ha).symm
  refine Eq.trans (congrArg (f_X6_passRun_L0_5 (nI lo) (nI hi) K 10000) e0.symm) ?_
  refine runL (fun f j => f_X6_passRun_L0_5 (nI lo) (nI hi) K f (Tp_w_at tp (nI j))) _ ?_ ?_ 10000 p (Nat.le_refl _) h1 (by omega)
  · intro f j b1 b2
    show f_X6_passRun_L0_5 (nI lo) (nI hi) K (f + 1) (Tp_w_at tp (nI j)) = f_X6_passRun_L0_5 (nI lo) (nI hi) K f (Tp_w_at tp (nI (j + 1)))
    rw [f_X6_passRun_L0_5]
    have r := h3 j b1 b2
    unfold inR at r
    have g1 : ¬ Tp_end tp ≤ nI j := by rw [he]; exact nI_ge (by omega) (by omega)
    have g2 : inb (nI j) 900 := inbN (by omega) (by omega)
    have g3 : ¬ Tp_bytes tp (ix (nI j)) < nI lo := by rw [ixN (by omega), ltI, tI (by omega)]; omega
    have g4 : ¬ nI hi < Tp_bytes tp (ix (nI j)) := by rw [ixN (by omega), ltI, tI (by omega)]; omega
    refine (if_neg g1).trans ((if_pos g2).trans ((if_neg g3).trans ((if_pos g2).trans ((if_neg g4).trans ?_))))
    show f_X6_passRun_L0_5 (nI lo) (nI hi) K f (Tp_w_at tp (nI j + 1)) = _
    rw [nI_1]
  · intro f
    show f_X6_passRun_L0_5 (nI lo) (nI hi) K (f + 1) (Tp_w_at tp (nI p')) = _
    rw [f_X6_passRun_L0_5]
    by_cases q : p' < n
    · have r := h4 q
      unfold inR at r
      have g1 : ¬ Tp_end tp ≤ nI p' := by rw [he]; exact nI_ge (by omega) (by omega)
      have g2 : inb (nI p') 900 := inbN (by omega) (by omega)
      by_cases g3 : Tp_bytes tp (ix (nI p')) < nI lo
      · exact (if_neg g1).trans ((if_pos g2).trans (if_pos g3))
      · have g4 : nI hi < Tp_bytes tp (ix (nI p')) := by
          rw [ixN (by omega), ltI, tI (by omega)] at g3 ⊢
          omega
        exact (if_neg g1).trans ((if_pos g2).trans ((if_neg g3).trans ((if_pos g2).trans (if_pos g4))))
    · have g1 : Tp_end tp ≤ nI p' := by rw [he]; exact nI_le (by omega) (by omega)
      exact if_pos g1
theorem c_pass (tp : TpT) {n p p' lo hi : Nat} (hl : lo < 128) (hh : hi < 128) (hn : n ≤ 900) (he : Tp_end tp = nI n) (ha : Tp_at tp = nI p) (hs : Tp_start tp = nI p) (h1 : p ≤ p') (h2 : p' ≤ n) (h3 : ∀ j, p ≤ j → j < p' → inR lo hi (Tp_bytes tp j)) (h4 : p' < n → ¬ inR lo hi (Tp_bytes tp p')) : f_X6_passRun tp (nI lo) (nI hi) = some (if p < p' then 1 else 0, Tp_w_at tp (nI p')) := by
  unfold f_X6_passRun
  rw [glE]
  refine (c_run _ tp hl hh hn he ha h1 h2 h3 h4).trans ?_
  by_cases q : p < p'
  · have g : ¬ nI p' ≤ Tp_start tp := by rw [hs]; exact nI_ge q (by omega)
    rw [if_pos q]
    exact if_neg g
  · have g : nI p' ≤ Tp_start tp := by rw [hs]; exact nI_le (by omega) (by omega)
    rw [if_neg q]
    exact if_pos g
/-- what stands from s on -/
def ls (T : Nat → Int32) (s i : Nat) : List Nat := (List.range i).map (fun j => (T (s + j)).toInt.toNat)
theorem ls_s (T : Nat → Int32) (s i : Nat) : ls T s (i + 1) = ls T s i ++ [(T (s + i)).toInt.toNat] := by
  unfold ls
  rw [List.range_succ, List.map_append]
  rfl
theorem ls_len (T : Nat → Int32) (s i : Nat) : (ls T s i).length = i := by
  unfold ls
  rw [List.length_map, List.length_range]
theorem ls_mem {T : Nat → Int32} {s i lo hi : Nat} (h : ∀ j, s ≤ j → j < s + i → inR lo hi (T j)) : ∀ a ∈ ls T s i, lo ≤ a ∧ a ≤ hi := by
  intro a ha
  unfold ls at ha
  obtain ⟨j, hj, e⟩ := List.mem_map.mp ha
  have hj := List.mem_range.mp hj
  have := h (s + j) (by omega) (by omega)
  unfold inR at this
  omega
theorem byN {v : Int32} (h : 0 ≤ v.toInt) (h2 : v.toInt ≤ 127) : v = nI v.toInt.toNat := by
  rw [eqI, tI (by omega)]
  omega
theorem c_tword (tp : TpT) {s m : Nat} (hm : s + m ≤ 900) (hs : Tp_start tp = nI s) (ha : Tp_at tp = nI (s + m)) (h : ∀ j, s ≤ j → j < s + m → inR 97 122 (Tp_bytes tp j)) : f_X6_takeWord tp = some (Tp_w_word (Tp_w_kind tp (if 5 < m then nI 4 else nI 1)) (wN (le5 (ls (Tp_bytes tp) s (min m 5))))) := by
  have key : ∀ y, f_X6_takeWord_L29_7 (fun s0_4 => some s0_4) 10000 (0 : Int32) (Tp_w_word (Tp_w_kind tp y) (0 : Int64)) = some (Tp_w_word (Tp_w_kind tp y) (wN (le5 (ls (Tp_bytes tp) s (min m 5))))) := by
    intro y
    rw [li_0]
    refine runL (fun f i => f_X6_takeWord_L29_7 (fun s0_4 => some s0_4) f (nI i) (Tp_w_word (Tp_w_kind tp y) (wN (le5 (ls (Tp_bytes tp) s i))))) _ (p := 0) (p' := min m 5) ?_ ?_ 10000 0 (Nat.le_refl _) (Nat.zero_le _) (by omega)
    · intro f i b1 b2
      show f_X6_takeWord_L29_7 (fun s0_4 => some s0_4) (f + 1) (nI i) (Tp_w_word (Tp_w_kind tp y) (wN (le5 (ls (Tp_bytes tp) s i)))) = f_X6_takeWord_L29_7 (fun s0_4 => some s0_4) f (nI (i + 1)) (Tp_w_word (Tp_w_kind tp y) (wN (le5 (ls (Tp_bytes tp) s (i + 1)))))
      rw [f_X6_takeWord_L29_7]
      have r := h (s + i) (by omega) (by omega)
      unfold inR at r
      have g0 : Tp_start tp + nI i = nI (s + i) := by rw [hs, nI_add]
      have g1 : ¬ (5 : Int32) ≤ nI i := nI_ge (b := 5) (by omega) (by omega)
      have g2 : ¬ Tp_at tp ≤ Tp_start tp + nI i := by rw [ha, g0]; exact nI_ge (by omega) (by omega)
      have g3 : inb (Tp_start tp + nI i) 900 := by rw [g0]; exact inbN (by omega) (by omega)
      refine (if_neg g1).trans ((if_neg g2).trans ((if_pos g3).trans ?_))
      show f_X6_takeWord_L29_7 (fun s0_4 => some s0_4) f (nI i + 1) (Tp_w_word (Tp_w_kind tp y) (wN (le5 (ls (Tp_bytes tp) s i)) ||| ((Tp_bytes tp (ix (Tp_start tp + nI i))).toInt64 <<< (((8 : Int32) * nI i).toInt64 &&& 63)))) = _
      have hlt := le_lt (ls (Tp_bytes tp) s i) (fun a ha => by have := ls_mem (lo := 97) (hi := 122) (fun j c1 c2 => h j c1 (by omega)) a ha; omega)
      rw [ls_len] at hlt
      rw [g0, ixN (by omega), nI_1, ls_s, le_app, ls_len]
      have eb : Tp_bytes tp (s + i) = nI (Tp_bytes tp (s + i)).toInt.toNat := byN (by omega) (by omega)
      have e2 := le_s2 (m := le5 (ls (Tp_bytes tp) s i)) (c := (Tp_bytes tp (s + i)).toInt.toNat) i (by omega) hlt (by omega)
      rw [← eb] at e2
      rw [e2]
    · intro f
      show f_X6_takeWord_L29_7 (fun s0_4 => some s0_4) (f + 1) (nI (min m 5)) _ = _
      rw [f_X6_takeWord_L29_7]
      by_cases q : 5 ≤ m
      · rw [show min m 5 = 5 by omega]
        have g1 : (5 : Int32) ≤ nI 5 := nI_le (Nat.le_refl 5) (by omega)
        exact if_pos g1
      · rw [show min m 5 = m by omega]
        have g1 : ¬ (5 : Int32) ≤ nI m := nI_ge (b := 5) (by omega) (by omega)
        have g2 : Tp_at tp ≤ Tp_start tp + nI m := by rw [ha, hs, nI_add]; exact nI_le (Nat.le_refl _) (by omega)
        exact (if_neg g1).trans (if_pos g2)
  unfold f_X6_takeWord
  rw [glE]
  have g0 : Tp_at tp - Tp_start tp = nI m := by rw [ha, hs, subN (by omega), show s + m - s = m by omega]
  rw [g0]
  by_cases q : 5 < m
  · rw [if_pos q]
    have g1 : (5 : Int32) < nI m := nI_lt q (by omega)
    exact (if_pos g1).trans ((glE _ _).trans (key _))
  · rw [if_neg q]
    have g1 : ¬ (5 : Int32) < nI m := nI_nlt (b := m) (a := 5) (by omega) (by omega)
    exact (if_neg g1).trans ((glE _ _).trans (key _))
theorem r_nword (t : MoT) {n s m : Nat} {tk nu f : Int32} {w : Int64} {q : QT} (hn : n ≤ 900) (hz : Mo_size t = nI n) (hb : ∀ j, j < 900 → isBy (Mo_tape t j)) (hm : s + m ≤ n) (h : ∀ j, s ≤ j → j < s + m → inR 97 122 (Mo_tape t j)) (h4 : s + m < n → ¬ inR 97 122 (Mo_tape t (s + m))) : f_X9_nextWord (ps t (nI s) tk (nI s) nu f w q) = some (ps t (nI (s + m)) (if 5 < m then nI 0 else nI 2) (nI s) nu f (wN (be5 (ls (Mo_tape t) s (min m 5)))) q) := by
  have hB : ∀ i, i ≤ 5 → i ≤ m → be5 (ls (Mo_tape t) s i) < 256 ^ i := fun i h5 hi => by
    rw [be_r]
    have g := le_lt (ls (Mo_tape t) s i).reverse (fun a ha => by
      have := ls_mem (lo := 97) (hi := 122) (fun j c1 c2 => h j c1 (by omega)) a (List.mem_reverse.mp ha)
      omega)
    rw [List.length_reverse, ls_len] at g
    exact g
  unfold f_X9_nextWord
  rw [glE]
  refine (runL (fun g j => f_X9_nextWord_L5_5 (fun (s0_2 : MoT) => if ((Mo_spot s0_2) - (Mo_at s0_2)) ≤ (5 : Int32) then some ((Mo_w_token s0_2 (2 : Int32))) else some ((Mo_w_token s0_2 (0 : Int32)))) g (ps t (nI j) tk (nI s) nu f (wN (be5 (ls (Mo_tape t) s (min (j - s) 5)))) q)) (p := s) (p' := s + m) (R := some (ps t (nI (s + m)) (if 5 < m then nI 0 else nI 2) (nI s) nu f (wN (be5 (ls (Mo_tape t) s (min m 5)))) q)) ?_ ?_ 10000 s (Nat.le_refl _) (by omega) (by omega)) |> Eq.trans ?_
  · rw [show min (s - s) 5 = 0 by omega]
    rfl
  · intro g j b1 b2
    show f_X9_nextWord_L5_5 _ (g + 1) (ps t (nI j) tk (nI s) nu f (wN (be5 (ls (Mo_tape t) s (min (j - s) 5)))) q) = f_X9_nextWord_L5_5 _ g (ps t (nI (j + 1)) tk (nI s) nu f (wN (be5 (ls (Mo_tape t) s (min (j + 1 - s) 5)))) q)
    rw [f_X9_nextWord_L5_5]
    have r := h j b1 b2
    have g1 : ∀ w', f_X9_byteAt (ps t (nI j) tk (nI s) nu f w' q) (nI j) = some (Mo_tape t j &&& (255 : Int32)) := fun _ => byte_at (n := n) hz (by omega) hn
    have g2 : f_X9_in (Mo_tape t j &&& (255 : Int32)) (nI 97) (nI 122) = some (1 : Int32) := (by_in (hb j (by omega)) (by omega) (by omega)).1 r
    unfold inR at r
    have g4 : Mo_tape t j = nI (Mo_tape t j).toInt.toNat := byN (by omega) (by omega)
    refine eb (g1 _) (eb g2 ((if_neg (by decide)).trans ?_))
    show (if (5 : Int32) ≤ nI j - nI s then _ else _) = _
    rw [subN b1]
    by_cases q5 : 5 ≤ j - s
    · have g5 : (5 : Int32) ≤ nI (j - s) := nI_le q5 (by omega)
      refine (if_pos g5).trans ?_
      show f_X9_nextWord_L5_5 _ g (ps t (nI j + 1) tk (nI s) nu f (wN (be5 (ls (Mo_tape t) s (min (j - s) 5)))) q) = _
      rw [nI_1, show min (j - s) 5 = min (j + 1 - s) 5 by omega]
    · have g5 : ¬ (5 : Int32) ≤ nI (j - s) := nI_ge (b := 5) (by omega) (by omega)
      refine (if_neg g5).trans (eb (g1 _) ?_)
      show f_X9_nextWord_L5_5 _ g (ps t (nI j + 1) tk (nI s) nu f ((wN (be5 (ls (Mo_tape t) s (min (j - s) 5))) <<< ((8 : Int32).toInt64 &&& 63)) ||| (Mo_tape t j &&& (255 : Int32)).toInt64) q) = _
      have hB2 := hB (j - s) (by omega) (by omega)
      have hp : 256 ^ (j - s) ≤ 256 ^ 4 := Nat.pow_le_pow_right (by omega) (by omega)
      have e2 := be_s (m := be5 (ls (Mo_tape t) s (j - s))) (c := (Mo_tape t j).toInt.toNat) (by omega) (by omega)
      rw [← g4] at e2
      rw [by_nn (hb j (by omega)) (by omega), nI_1, show min (j - s) 5 = j - s by omega, show min (j + 1 - s) 5 = (j - s) + 1 by omega, e2, ls_s, be_app, show s + (j - s) = j by omega]
  · intro g
    show f_X9_nextWord_L5_5 _ (g + 1) (ps t (nI (s + m)) tk (nI s) nu f (wN (be5 (ls (Mo_tape t) s (min (s + m - s) 5)))) q) = _
    rw [f_X9_nextWord_L5_5]
    have fin : (if ((nI (s + m)) - (nI s)) ≤ (5 : Int32) then some (ps t (nI (s + m)) (nI 2) (nI s) nu f (wN (be5 (ls (Mo_tape t) s (min (s + m - s) 5)))) q) else some (ps t (nI (s + m)) (nI 0) (nI s) nu f (wN (be5 (ls (Mo_tape t) s (min (s + m - s) 5)))) q)) = some (ps t (nI (s + m)) (if 5 < m then nI 0 else nI 2) (nI s) nu f (wN (be5 (ls (Mo_tape t) s (min m 5)))) q) := by
      rw [subN (by omega), show s + m - s = m by omega]
      by_cases q5 : 5 < m
      · have g5 : ¬ nI m ≤ (5 : Int32) := nI_ge (a := 5) q5 (by omega)
        rw [if_neg g5, if_pos q5]
      · have g5 : nI m ≤ (5 : Int32) := nI_le (b := 5) (by omega) (by omega)
        rw [if_pos g5, if_neg q5]
    by_cases e : s + m < n
    · have g1 : ∀ w', f_X9_byteAt (ps t (nI (s + m)) tk (nI s) nu f w' q) (nI (s + m)) = some (Mo_tape t (s + m) &&& (255 : Int32)) := fun _ => byte_at (n := n) hz (by omega) hn
      have g2 : f_X9_in (Mo_tape t (s + m) &&& (255 : Int32)) (nI 97) (nI 122) = some (0 : Int32) := (by_in (hb (s + m) (by omega)) (by omega) (by omega)).2 (h4 e)
      exact eb (g1 _) (eb g2 ((if_pos rfl).trans fin))
    · have g1 : ∀ w', f_X9_byteAt (ps t (nI (s + m)) tk (nI s) nu f w' q) (nI (s + m)) = some m1 := fun _ => byte_end (n := n) hz (by omega) (by omega)
      have g2 : f_X9_in m1 (nI 97) (nI 122) = some (0 : Int32) := m1_in (by omega)
      exact eb (g1 _) (eb g2 ((if_pos rfl).trans fin))
