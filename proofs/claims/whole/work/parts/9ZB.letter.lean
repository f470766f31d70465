/-! letters of the known words -/
theorem lg0 {m : Nat} (hm : m < 9223372036854775808) : lg_cmp (wN m) (0 : Int64) = 0 ↔ m = 0 := by
  constructor
  · intro h
    refine Classical.byContradiction (fun hne => ?_)
    have ne : wN m ≠ (0 : Int64) := fun e => by
      have e2 : (BitVec.ofNat 64 m).toNat = (BitVec.ofNat 64 0).toNat := congrArg (fun z : Int64 => z.toBitVec.toNat) e
      rw [BitVec.toNat_ofNat, BitVec.toNat_ofNat, Nat.mod_eq_of_lt (by omega)] at e2
      exact hne e2
    unfold lg_cmp at h
    rw [if_neg ne] at h
    split at h
    · exact absurd h (by decide)
    · exact absurd h (by decide)
  · intro h
    rw [h]
    decide
theorem w_len (t : MoT) (p1 p2 : Int32) {l : List Nat} (h : wOK l) (hI : inb (((8 : Int32) * p1) + p2) 16) (hW : Mo_words t (ix (((8 : Int32) * p1) + p2)) = Int64.ofNat (be5 l)) : f_X9_letters t p1 p2 = some (nI l.length) := by
  unfold f_X9_letters
  rw [glE, li_0]
  have h5 := h.2.1
  have hb : be5 l < 1099511627776 := by rw [be_r]; exact le_small h.rev
  have z : ∀ i, i ≤ 5 → (lg_cmp (Mo_words t (ix (((8 : Int32) * p1) + p2)) >>> (((8 : Int32) * nI i).toInt64 &&& 63)) (0 : Int64) = 0 ↔ l.length ≤ i) := fun i hi => by
    rw [hW]
    have e := shJ (n := be5 l) (by omega) i hi
    have e2 := lg0 (m := be5 l / 256 ^ i) (Nat.lt_of_le_of_lt (Nat.div_le_self _ _) (by omega))
    rw [← e] at e2
    rw [show (be5 l / 256 ^ i = 0) = (le5 l.reverse / 256 ^ i = 0) by rw [be_r], le_z l.reverse (fun a ha => by have := h.rev.2.2 a ha; omega) i, List.length_reverse] at e2
    exact e2
  refine lp (L := fun n i (_ : Unit) => f_X9_letters_L2_4 t p1 p2 (fun (x3_2 : Int32) => some (x3_2)) n i) l.length (fun _ _ => True) (fun o => o = some (nI l.length)) ?_ ?_ 10000 0 () (by omega) (by omega) trivial
  · intro n _ _
    show f_X9_letters_L2_4 t p1 p2 (fun (x3_2 : Int32) => some (x3_2)) (n + 1) (nI l.length) = _
    rw [f_X9_letters_L2_4]
    by_cases q : (5 : Int32) ≤ nI l.length
    · exact if_pos q
    · exact (if_neg q).trans ((if_pos hI).trans (if_pos ((z l.length h5).mpr (Nat.le_refl _))))
  · intro n i _ hi _
    refine Or.inr ⟨(), trivial, ?_⟩
    show f_X9_letters_L2_4 t p1 p2 (fun (x3_2 : Int32) => some (x3_2)) (n + 1) (nI i) = f_X9_letters_L2_4 t p1 p2 (fun (x3_2 : Int32) => some (x3_2)) n (nI (i + 1))
    rw [f_X9_letters_L2_4, show nI i + (1 : Int32) = nI (i + 1) from nI_1 i]
    exact (if_neg (nI_ge (b := 5) (by omega) (by omega))).trans ((if_pos hI).trans (if_neg (fun c => absurd ((z i (by omega)).mp c) (by omega))))
