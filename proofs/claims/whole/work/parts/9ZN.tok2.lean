/-! numbers, and a token -/
def dv (l : List Nat) : Nat := l.foldl (fun a c => 10 * a + (c - 48)) 0
theorem dv_app (l : List Nat) (c : Nat) : dv (l ++ [c]) = 10 * dv l + (c - 48) := by
  unfold dv
  rw [List.foldl_append]
  rfl
theorem dv_lt {T : Nat → Int32} {s : Nat} : ∀ i, (∀ j, s ≤ j → j < s + i → inR 48 57 (T j)) → dv (ls T s i) < 10 ^ i
  | 0, _ => by
    show 0 < 10 ^ 0
    omega
  | i + 1, h => by
    have e := dv_lt i (fun j c1 c2 => h j c1 (by omega))
    have r := h (s + i) (by omega) (by omega)
    unfold inR at r
    rw [ls_s, dv_app, Nat.pow_succ]
    omega
theorem c_twhole (tp : TpT) {s m : Nat} (hm : s + m ≤ 900) (hs : Tp_start tp = nI s) (ha : Tp_at tp = nI (s + m)) (h : ∀ j, s ≤ j → j < s + m → inR 48 57 (Tp_bytes tp j)) : f_X6_takeWhole tp = some (Tp_w_whole (Tp_w_kind tp (if 4 < m then nI 4 else nI 2)) (nI (dv (ls (Tp_bytes tp) s (min m 4))))) := by
  have key : ∀ y, f_X6_takeWhole_L29_7 (fun s0_4 => some s0_4) 10000 (0 : Int32) (Tp_w_whole (Tp_w_kind tp y) (0 : Int32)) = some (Tp_w_whole (Tp_w_kind tp y) (nI (dv (ls (Tp_bytes tp) s (min m 4))))) := by
    intro y
    rw [li_0]
    refine runL (fun f i => f_X6_takeWhole_L29_7 (fun s0_4 => some s0_4) f (nI i) (Tp_w_whole (Tp_w_kind tp y) (nI (dv (ls (Tp_bytes tp) s i))))) _ (p := 0) (p' := min m 4) ?_ ?_ 10000 0 (Nat.le_refl _) (Nat.zero_le _) (by omega)
    · intro f i b1 b2
      show f_X6_takeWhole_L29_7 (fun s0_4 => some s0_4) (f + 1) (nI i) (Tp_w_whole (Tp_w_kind tp y) (nI (dv (ls (Tp_bytes tp) s i)))) = f_X6_takeWhole_L29_7 (fun s0_4 => some s0_4) f (nI (i + 1)) (Tp_w_whole (Tp_w_kind tp y) (nI (dv (ls (Tp_bytes tp) s (i + 1)))))
      rw [f_X6_takeWhole_L29_7]
      have r := h (s + i) (by omega) (by omega)
      unfold inR at r
      have g0 : Tp_start tp + nI i = nI (s + i) := by rw [hs, nI_add]
      have g1 : ¬ (4 : Int32) ≤ nI i := nI_ge (b := 4) (by omega) (by omega)
      have g2 : ¬ Tp_at tp ≤ Tp_start tp + nI i := by rw [ha, g0]; exact nI_ge (by omega) (by omega)
      have g3 : inb (Tp_start tp + nI i) 900 := by rw [g0]; exact inbN (by omega) (by omega)
      refine (if_neg g1).trans ((if_neg g2).trans ((if_pos g3).trans ?_))
      show f_X6_takeWhole_L29_7 (fun s0_4 => some s0_4) f (nI i + 1) (Tp_w_whole (Tp_w_kind tp y) (nI (dv (ls (Tp_bytes tp) s i)) * nI 10 + (Tp_bytes tp (ix (Tp_start tp + nI i)) - nI 48))) = _
      have eb : Tp_bytes tp (s + i) = nI (Tp_bytes tp (s + i)).toInt.toNat := byN (by omega) (by omega)
      rw [g0, ixN (by omega), nI_1, ls_s, dv_app, eb, subN (by omega), pk_mul, nI_add, ← eb, Nat.mul_comm]
    · intro f
      show f_X6_takeWhole_L29_7 (fun s0_4 => some s0_4) (f + 1) (nI (min m 4)) _ = _
      rw [f_X6_takeWhole_L29_7]
      by_cases q : 4 ≤ m
      · rw [show min m 4 = 4 by omega]
        have g1 : (4 : Int32) ≤ nI 4 := nI_le (Nat.le_refl 4) (by omega)
        exact if_pos g1
      · rw [show min m 4 = m by omega]
        have g1 : ¬ (4 : Int32) ≤ nI m := nI_ge (b := 4) (by omega) (by omega)
        have g2 : Tp_at tp ≤ Tp_start tp + nI m := by rw [ha, hs, nI_add]; exact nI_le (Nat.le_refl _) (by omega)
        exact (if_neg g1).trans (if_pos g2)
  unfold f_X6_takeWhole
  rw [glE]
  have g0 : Tp_at tp - Tp_start tp = nI m := by rw [ha, hs, subN (by omega), show s + m - s = m by omega]
  rw [g0]
  by_cases q : 4 < m
  · rw [if_pos q]
    have g1 : (4 : Int32) < nI m := nI_lt q (by omega)
    exact (if_pos g1).trans ((glE _ _).trans (key _))
  · rw [if_neg q]
    have g1 : ¬ (4 : Int32) < nI m := nI_nlt (b := m) (a := 4) (by omega) (by omega)
    exact (if_neg g1).trans ((glE _ _).trans (key _))
theorem r_nwhole (t : MoT) {n s m : Nat} {tk nu f : Int32} {w : Int64} {q : QT} (hn : n ≤ 900) (hz : Mo_size t = nI n) (hb : ∀ j, j < 900 → isBy (Mo_tape t j)) (hm : s + m ≤ n) (h : ∀ j, s ≤ j → j < s + m → inR 48 57 (Mo_tape t j)) (h4 : s + m < n → ¬ inR 48 57 (Mo_tape t (s + m))) : f_X9_nextWhole (ps t (nI s) tk (nI s) nu f w q) = some (ps t (nI (s + m)) (if 4 < m then nI 0 else nI 3) (nI s) (nI (dv (ls (Mo_tape t) s (min m 4)))) f w q) := by
  unfold f_X9_nextWhole
  rw [glE]
  refine (runL (fun g j => f_X9_nextWhole_L5_5 (fun (s0_2 : MoT) => if ((Mo_spot s0_2) - (Mo_at s0_2)) ≤ (4 : Int32) then some ((Mo_w_token s0_2 (3 : Int32))) else some ((Mo_w_token s0_2 (0 : Int32)))) g (ps t (nI j) tk (nI s) (nI (dv (ls (Mo_tape t) s (min (j - s) 4)))) f w q)) (p := s) (p' := s + m) (R := some (ps t (nI (s + m)) (if 4 < m then nI 0 else nI 3) (nI s) (nI (dv (ls (Mo_tape t) s (min m 4)))) f w q)) ?_ ?_ 10000 s (Nat.le_refl _) (by omega) (by omega)) |> Eq.trans ?_
  · rw [show min (s - s) 4 = 0 by omega]
    rfl
  · intro g j b1 b2
    show f_X9_nextWhole_L5_5 _ (g + 1) (ps t (nI j) tk (nI s) (nI (dv (ls (Mo_tape t) s (min (j - s) 4)))) f w q) = f_X9_nextWhole_L5_5 _ g (ps t (nI (j + 1)) tk (nI s) (nI (dv (ls (Mo_tape t) s (min (j + 1 - s) 4)))) f w q)
    rw [f_X9_nextWhole_L5_5]
    have r := h j b1 b2
    have g1 : ∀ w', f_X9_byteAt (ps t (nI j) tk (nI s) w' f w q) (nI j) = some (Mo_tape t j &&& (255 : Int32)) := fun _ => byte_at (n := n) hz (by omega) hn
    have g2 : f_X9_in (Mo_tape t j &&& (255 : Int32)) (nI 48) (nI 57) = some (1 : Int32) := (by_in (hb j (by omega)) (by omega) (by omega)).1 r
    unfold inR at r
    have g4 : Mo_tape t j = nI (Mo_tape t j).toInt.toNat := byN (by omega) (by omega)
    refine eb (g1 _) (eb g2 ((if_neg (by decide)).trans ?_))
    show (if (4 : Int32) ≤ nI j - nI s then _ else _) = _
    rw [subN b1]
    by_cases q5 : 4 ≤ j - s
    · have g5 : (4 : Int32) ≤ nI (j - s) := nI_le q5 (by omega)
      refine (if_pos g5).trans ?_
      show f_X9_nextWhole_L5_5 _ g (ps t (nI j + 1) tk (nI s) (nI (dv (ls (Mo_tape t) s (min (j - s) 4)))) f w q) = _
      rw [nI_1, show min (j - s) 4 = min (j + 1 - s) 4 by omega]
    · have g5 : ¬ (4 : Int32) ≤ nI (j - s) := nI_ge (b := 4) (by omega) (by omega)
      refine (if_neg g5).trans (eb (g1 _) ?_)
      show f_X9_nextWhole_L5_5 _ g (ps t (nI j + 1) tk (nI s) (nI 10 * nI (dv (ls (Mo_tape t) s (min (j - s) 4))) + (Mo_tape t j &&& (255 : Int32)) - nI 48) f w q) = _
      rw [by_nn (hb j (by omega)) (by omega), nI_1, show min (j - s) 4 = j - s by omega, show min (j + 1 - s) 4 = (j - s) + 1 by omega, g4, pk_mul, nI_add, subN (by omega), ls_s, dv_app, show s + (j - s) = j by omega]
      rw [show 10 * dv (ls (Mo_tape t) s (j - s)) + (Mo_tape t j).toInt.toNat - 48 = 10 * dv (ls (Mo_tape t) s (j - s)) + ((Mo_tape t j).toInt.toNat - 48) by omega]
  · intro g
    show f_X9_nextWhole_L5_5 _ (g + 1) (ps t (nI (s + m)) tk (nI s) (nI (dv (ls (Mo_tape t) s (min (s + m - s) 4)))) f w q) = _
    rw [f_X9_nextWhole_L5_5]
    have fin : (if ((nI (s + m)) - (nI s)) ≤ (4 : Int32) then some (ps t (nI (s + m)) (nI 3) (nI s) (nI (dv (ls (Mo_tape t) s (min (s + m - s) 4)))) f w q) else some (ps t (nI (s + m)) (nI 0) (nI s) (nI (dv (ls (Mo_tape t) s (min (s + m - s) 4)))) f w q)) = some (ps t (nI (s + m)) (if 4 < m then nI 0 else nI 3) (nI s) (nI (dv (ls (Mo_tape t) s (min m 4)))) f w q) := by
      rw [subN (by omega), show s + m - s = m by omega]
      by_cases q5 : 4 < m
      · have g5 : ¬ nI m ≤ (4 : Int32) := nI_ge (a := 4) q5 (by omega)
        rw [if_neg g5, if_pos q5]
      · have g5 : nI m ≤ (4 : Int32) := nI_le (b := 4) (by omega) (by omega)
        rw [if_pos g5, if_neg q5]
    by_cases e : s + m < n
    · have g1 : ∀ w', f_X9_byteAt (ps t (nI (s + m)) tk (nI s) w' f w q) (nI (s + m)) = some (Mo_tape t (s + m) &&& (255 : Int32)) := fun _ => byte_at (n := n) hz (by omega) hn
      have g2 : f_X9_in (Mo_tape t (s + m) &&& (255 : Int32)) (nI 48) (nI 57) = some (0 : Int32) := (by_in (hb (s + m) (by omega)) (by omega) (by omega)).2 (h4 e)
      exact eb (g1 _) (eb g2 ((if_pos rfl).trans fin))
    · have g1 : ∀ w', f_X9_byteAt (ps t (nI (s + m)) tk (nI s) w' f w q) (nI (s + m)) = some m1 := fun _ => byte_end (n := n) hz (by omega) (by omega)
      have g2 : f_X9_in m1 (nI 48) (nI 57) = some (0 : Int32) := m1_in (by omega)
      exact eb (g1 _) (eb g2 ((if_pos rfl).trans fin))
/-- the tape's bytes on both sides -/
def TB (tp : TpT) (t : MoT) : Prop := ∀ i, i < 900 → Tp_bytes tp i = Mo_tape t i ∧ isBy (Tp_bytes tp i)
/-- the tape looked at: bytes, length, end, place, start -/
def TP (tp tp' : TpT) (n p a : Nat) : Prop := Tp_bytes tp' = Tp_bytes tp ∧ Tp_length tp' = Tp_length tp ∧ Tp_end tp' = nI n ∧ Tp_at tp' = nI p ∧ Tp_start tp' = nI a
theorem ls_congr {T U : Nat → Int32} {s : Nat} (i : Nat) (h : ∀ j, s ≤ j → j < s + i → T j = U j) : ls T s i = ls U s i := by
  unfold ls
  refine List.map_congr_left (fun j hj => ?_)
  rw [h (s + j) (by omega) (by have := List.mem_range.mp hj; omega)]
theorem n10 : ¬ (1 : Int32) = 0 := by decide
theorem z00 : (0 : Int32) ≤ 0 := by decide
theorem next2 (tp : TpT) (t : MoT) {n p : Nat} (tk a nu : Int32) (w : Int64) (q : QT) (hT : TB tp t) (hn : n ≤ 900) (he : Tp_end tp = nI n) (hz : Mo_size t = nI n) (hp : p ≤ n) (ha : Tp_at tp = nI p) :
    ∃ tp' p' s tk' nu' w', f_X6_next tp = some tp' ∧ f_X9_next (ps t (nI p) tk a nu 0 w q) = some (ps t (nI p') tk' (nI s) nu' 0 w' q) ∧ TP tp tp' n p' s ∧ TK (Tp_kind tp') tk' (Tp_word tp') w' (Tp_whole tp') nu' ∧ p ≤ p' ∧ p' ≤ n ∧ (tk' = nI 4 → p < p') := by
  have hb : ∀ j, j < 900 → isBy (Mo_tape t j) := fun j hj => by rw [← (hT j hj).1]; exact (hT j hj).2
  obtain ⟨s, s1, s2, s3, s4⟩ := runE (fun j => Tp_bytes tp j = nI 32) n (n - p) p hp (Nat.le_refl _)
  have e1 := fun K => c_skip K tp hn he ha s1 s2 s3 s4
  have e2 := fun K => r_skip K t (tk := tk) (a := a) (nu := nu) (f := 0) (w := w) (q := q) hn hz hb s1 s2 (fun j c1 c2 => by rw [← (hT j (by omega)).1]; exact s3 j c1 c2) (fun c => by rw [← (hT s (by omega)).1]; exact s4 c)
  unfold f_X6_next f_X9_next
  rw [glE, glE, e1]
  have f0 : ∀ (A B : Option MoT), (if Mo_fault (ps t (nI p) tk a nu 0 w q) ≤ 0 then A else B) = A := fun A B => if_pos z00
  rw [f0, e2]
  by_cases h1 : s < n
  · have lt1 : Tp_at (Tp_w_at tp (nI s)) < Tp_end (Tp_w_at tp (nI s)) := by show nI s < Tp_end tp; rw [he]; exact nI_lt h1 (by omega)
    have b1 : f_X9_byteAt (Mo_w_at (ps t (nI s) tk a nu 0 w q) (Mo_spot (ps t (nI s) tk a nu 0 w q))) (Mo_spot (ps t (nI s) tk a nu 0 w q)) = some (Mo_tape t s &&& (255 : Int32)) := byte_at (s := ps t (nI s) tk (nI s) nu 0 w q) (n := n) hz h1 hn
    have b2 : ¬ Mo_tape t s &&& (255 : Int32) = (-1 : Int32) := fun c => by rw [← (show m1 = (-1 : Int32) from rfl), by_m1 (hb s (by omega))] at c; exact c
    obtain ⟨u, u1, u2, u3, u4⟩ := runE (fun j => inR 97 122 (Tp_bytes tp j)) n (n - s) s (by omega) (Nat.le_refl _)
    have p1 := c_pass (Tp_w_start (Tp_w_at tp (nI s)) (nI s)) (lo := 97) (hi := 122) (by omega) (by omega) hn he rfl rfl u1 u2 u3 u4
    by_cases h2 : s < u
    · -- a word
      rw [if_pos h2] at p1
      have r1 := (by_in (hb s (by omega)) (a := 97) (b := 122) (by omega) (by omega)).1 (by rw [← (hT s (by omega)).1]; exact u3 s (Nat.le_refl _) h2)
      have m1 : u = s + (u - s) := by omega
      have w1 := c_tword (Tp_w_at (Tp_w_start (Tp_w_at tp (nI s)) (nI s)) (nI u)) (s := s) (m := u - s) (by omega) rfl (by rw [← m1]) (fun j c1 c2 => u3 j c1 (by omega))
      have w2 := r_nword t (n := n) (s := s) (m := u - s) (tk := tk) (nu := nu) (f := 0) (w := w) (q := q) hn hz hb (by omega) (fun j c1 c2 => by rw [← (hT j (by omega)).1]; exact u3 j c1 (by omega)) (fun c => by rw [← m1, ← (hT u (by omega)).1]; exact u4 (by omega))
      rw [← m1] at w2
      refine ⟨_, u, s, _, nu, _, (if_pos lt1).trans (eb p1 ((if_neg n10).trans (eb w1 rfl))), eb b1 ((if_neg b2).trans (eb r1 ((if_neg n10).trans (eb w2 rfl)))), ⟨rfl, rfl, he, rfl, rfl⟩, ?_, by omega, u2, fun _ => by omega⟩
      show TK (if 5 < u - s then nI 4 else nI 1) (if 5 < u - s then nI 0 else nI 2) (wN (le5 (ls (Tp_bytes tp) s (min (u - s) 5)))) (wN (be5 (ls (Mo_tape t) s (min (u - s) 5)))) _ _
      by_cases h5 : 5 < u - s
      · rw [if_pos h5, if_pos h5]
        exact Or.inr (Or.inr (Or.inr (Or.inr ⟨rfl, rfl⟩)))
      · rw [if_neg h5, if_neg h5]
        refine Or.inr (Or.inl ⟨rfl, rfl, ls (Tp_bytes tp) s (min (u - s) 5), ⟨by rw [ls_len]; omega, by rw [ls_len]; omega, ls_mem (fun j c1 c2 => u3 j c1 (by omega))⟩, rfl, ?_⟩)
        rw [ls_congr (min (u - s) 5) (fun j c1 c2 => (hT j (by omega)).1)]
    · have hu : u = s := by omega
      rw [if_neg h2, hu] at p1
      have r1 := (by_in (hb s (by omega)) (a := 97) (b := 122) (by omega) (by omega)).2 (by rw [← (hT s (by omega)).1, ← hu]; exact u4 (by omega))
      obtain ⟨v, v1, v2, v3, v4⟩ := runE (fun j => inR 48 57 (Tp_bytes tp j)) n (n - s) s (by omega) (Nat.le_refl _)
      have p2 := c_pass (Tp_w_at (Tp_w_start (Tp_w_at tp (nI s)) (nI s)) (nI s)) (lo := 48) (hi := 57) (by omega) (by omega) hn he rfl rfl v1 v2 v3 v4
      by_cases h3 : s < v
      · -- a whole number
        rw [if_pos h3] at p2
        have r2 := (by_in (hb s (by omega)) (a := 48) (b := 57) (by omega) (by omega)).1 (by rw [← (hT s (by omega)).1]; exact v3 s (Nat.le_refl _) h3)
        have m1 : v = s + (v - s) := by omega
        have w1 := c_twhole (Tp_w_at (Tp_w_at (Tp_w_start (Tp_w_at tp (nI s)) (nI s)) (nI s)) (nI v)) (s := s) (m := v - s) (by omega) rfl (by rw [← m1]) (fun j c1 c2 => v3 j c1 (by omega))
        have w2 := r_nwhole t (n := n) (s := s) (m := v - s) (tk := tk) (nu := nu) (f := 0) (w := w) (q := q) hn hz hb (by omega) (fun j c1 c2 => by rw [← (hT j (by omega)).1]; exact v3 j c1 (by omega)) (fun c => by rw [← m1, ← (hT v (by omega)).1]; exact v4 (by omega))
        rw [← m1] at w2
        refine ⟨_, v, s, _, _, w, (if_pos lt1).trans (eb p1 ((if_pos rfl).trans (eb p2 ((if_neg n10).trans (eb w1 rfl))))), eb b1 ((if_neg b2).trans (eb r1 ((if_pos rfl).trans (eb r2 ((if_neg n10).trans (eb w2 rfl)))))), ⟨rfl, rfl, he, rfl, rfl⟩, ?_, by omega, v2, fun _ => by omega⟩
        show TK (if 4 < v - s then nI 4 else nI 2) (if 4 < v - s then nI 0 else nI 3) _ _ (nI (dv (ls (Tp_bytes tp) s (min (v - s) 4)))) (nI (dv (ls (Mo_tape t) s (min (v - s) 4))))
        by_cases h5 : 4 < v - s
        · rw [if_pos h5, if_pos h5]
          exact Or.inr (Or.inr (Or.inr (Or.inr ⟨rfl, rfl⟩)))
        · rw [if_neg h5, if_neg h5]
          have lt := dv_lt (T := Tp_bytes tp) (s := s) (min (v - s) 4) (fun j c1 c2 => v3 j c1 (by omega))
          have lt2 : 10 ^ (min (v - s) 4) ≤ 10 ^ 4 := Nat.pow_le_pow_right (by omega) (by omega)
          refine Or.inr (Or.inr (Or.inl ⟨rfl, rfl, _, by omega, rfl, ?_⟩))
          rw [ls_congr (min (v - s) 4) (fun j c1 c2 => (hT j (by omega)).1)]
      · -- another byte
        have hv : v = s := by omega
        rw [if_neg h3, hv] at p2
        have r2 := (by_in (hb s (by omega)) (a := 48) (b := 57) (by omega) (by omega)).2 (by rw [← (hT s (by omega)).1, ← hv]; exact v4 (by omega))
        have i1 : inb (nI s) 900 := inbN (by omega) (by omega)
        have y1 : Tp_bytes tp (ix (nI s)) = Tp_bytes tp s := by rw [ixN (by omega)]
        by_cases h59 : Tp_bytes tp s = nI 59
        · have c59 : Tp_bytes tp (ix (nI s)) = (59 : Int32) := by rw [y1]; exact h59
          have d59 : Mo_tape t s &&& (255 : Int32) = (59 : Int32) := (by_eq (hb s (by omega)) (c := 59) (by omega)).mpr (by rw [← (hT s (by omega)).1]; exact h59)
          refine ⟨_, s + 1, s, nI 4, nu, w, (if_pos lt1).trans (eb p1 ((if_pos rfl).trans (eb p2 ((if_pos rfl).trans ((if_pos i1).trans ((glE _ _).trans (if_pos c59))))))), ?_, ⟨rfl, rfl, he, nI_1 s, rfl⟩, Or.inr (Or.inr (Or.inr (Or.inl ⟨rfl, rfl⟩))), by omega, by omega, fun _ => by omega⟩
          refine eb b1 ((if_neg b2).trans (eb r1 ((if_pos rfl).trans (eb r2 ((if_pos rfl).trans ((glE _ _).trans ((if_pos d59).trans ?_)))))))
          rw [← nI_1 s]
          rfl
        · have c59 : ¬ Tp_bytes tp (ix (nI s)) = (59 : Int32) := by rw [y1]; exact h59
          have d59 : ¬ Mo_tape t s &&& (255 : Int32) = (59 : Int32) := fun c => h59 (by rw [(hT s (by omega)).1]; exact (by_eq (hb s (by omega)) (c := 59) (by omega)).mp c)
          refine ⟨_, s + 1, s, nI 0, nu, w, (if_pos lt1).trans (eb p1 ((if_pos rfl).trans (eb p2 ((if_pos rfl).trans ((if_pos i1).trans ((glE _ _).trans (if_neg c59))))))), ?_, ⟨rfl, rfl, he, nI_1 s, rfl⟩, Or.inr (Or.inr (Or.inr (Or.inr ⟨rfl, rfl⟩))), by omega, by omega, fun _ => by omega⟩
          refine eb b1 ((if_neg b2).trans (eb r1 ((if_pos rfl).trans (eb r2 ((if_pos rfl).trans ((glE _ _).trans ((if_neg d59).trans ?_)))))))
          rw [← nI_1 s]
          rfl
  · have hs : s = n := by omega
    have lt1 : ¬ Tp_at (Tp_w_at tp (nI s)) < Tp_end (Tp_w_at tp (nI s)) := by show ¬ nI s < Tp_end tp; rw [he]; exact nI_nlt (by omega) (by omega)
    have b1 : f_X9_byteAt (Mo_w_at (ps t (nI s) tk a nu 0 w q) (Mo_spot (ps t (nI s) tk a nu 0 w q))) (Mo_spot (ps t (nI s) tk a nu 0 w q)) = some m1 := byte_end (s := ps t (nI s) tk (nI s) nu 0 w q) (n := n) hz (by omega) (by omega)
    refine ⟨_, s, s, nI 1, nu, w, if_neg lt1, eb b1 (if_pos rfl), ⟨rfl, rfl, he, rfl, rfl⟩, Or.inl ⟨rfl, rfl⟩, by omega, by omega, fun c => absurd c (by decide)⟩
