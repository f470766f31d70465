/-! words: letters by shifts -/
abbrev wN (n : Nat) : Int64 := Int64.ofNat n
theorem sh64 (b : Int64) (k n : Nat) (hk : (b.toBitVec.smod 64).toNat = k) (hn : n < 9223372036854775808) : wN n >>> b = wN (n / 2 ^ k) := by
  have hm : (BitVec.ofNat 64 n).msb = false := by
    rw [BitVec.msb_eq_decide, decide_eq_false_iff_not, BitVec.toNat_ofNat]
    omega
  apply Int64.toBitVec_inj.mp
  rw [Int64.toBitVec_shiftRight, BitVec.sshiftRight', hk]
  show (BitVec.ofNat 64 n).sshiftRight k = BitVec.ofNat 64 (n / 2 ^ k)
  rw [BitVec.sshiftRight_eq_of_msb_false hm]
  apply BitVec.eq_of_toNat_eq
  rw [BitVec.toNat_ushiftRight, BitVec.toNat_ofNat, BitVec.toNat_ofNat, Nat.shiftRight_eq_div_pow, Nat.mod_eq_of_lt (by omega), Nat.mod_eq_of_lt (Nat.lt_of_le_of_lt (Nat.div_le_self _ _) (by omega))]
theorem shJ {n : Nat} (hn : n < 9223372036854775808) : ∀ j, j ≤ 5 → wN n >>> (((8 : Int32) * nI j).toInt64 &&& 63) = wN (n / 256 ^ j)
  | 0, _ => sh64 _ 0 n (by decide) hn
  | 1, _ => sh64 _ 8 n (by decide) hn
  | 2, _ => sh64 _ 16 n (by decide) hn
  | 3, _ => sh64 _ 24 n (by decide) hn
  | 4, _ => sh64 _ 32 n (by decide) hn
  | 5, _ => sh64 _ 40 n (by decide) hn
  | j + 6, h => absurd h (by omega)
theorem lo8 (n : Nat) (hn : n < 9223372036854775808) : (wN n &&& (255 : Int64)).toInt32 = nI (n % 256) := by
  have e : wN n &&& (255 : Int64) = wN (n % 256) := by
    apply Int64.toBitVec_inj.mp
    rw [Int64.toBitVec_and]
    show BitVec.ofNat 64 n &&& BitVec.ofNat 64 255 = BitVec.ofNat 64 (n % 256)
    apply BitVec.eq_of_toNat_eq
    rw [BitVec.toNat_and, BitVec.toNat_ofNat, BitVec.toNat_ofNat, BitVec.toNat_ofNat, Nat.mod_eq_of_lt (a := n) (by omega), show 255 % 2 ^ 64 = 2 ^ 8 - 1 by decide, Nat.and_two_pow_sub_one_eq_mod, Nat.mod_eq_of_lt (a := n % 256) (by omega)]
  rw [e]
  have h : n % 256 < 256 := Nat.mod_lt _ (by omega)
  generalize n % 256 = m at h
  revert m
  decide +kernel
theorem le_s (a j : Nat) (t : List Nat) (ha : a < 256) : le5 (a :: t) / 256 ^ (j + 1) = le5 t / 256 ^ j := by
  show (a + 256 * le5 t) / 256 ^ (j + 1) = _
  rw [Nat.pow_succ, Nat.mul_comm (256 ^ j) 256, ← Nat.div_div_eq_div_mul, show (a + 256 * le5 t) / 256 = le5 t by omega]
theorem le_at : ∀ (l : List Nat), (∀ a ∈ l, a < 256) → ∀ j, le5 l / 256 ^ j % 256 = l.getD j 0
  | [], _, j => by
    show 0 / 256 ^ j % 256 = 0
    rw [Nat.zero_div]
  | a :: t, h, 0 => by
    have := h a (List.mem_cons_self ..)
    show (a + 256 * le5 t) / 1 % 256 = a
    omega
  | a :: t, h, j + 1 => by
    rw [le_s a j t (h a (List.mem_cons_self ..))]
    exact le_at t (fun b hb => h b (List.mem_cons_of_mem _ hb)) j
theorem le_z : ∀ (l : List Nat), (∀ a ∈ l, 0 < a ∧ a < 256) → ∀ j, le5 l / 256 ^ j = 0 ↔ l.length ≤ j
  | [], _, j => by
    show 0 / 256 ^ j = 0 ↔ 0 ≤ j
    rw [Nat.zero_div]
    exact ⟨fun _ => Nat.zero_le _, fun _ => rfl⟩
  | a :: t, h, 0 => by
    have := h a (List.mem_cons_self ..)
    show (a + 256 * le5 t) / 1 = 0 ↔ t.length + 1 ≤ 0
    omega
  | a :: t, h, j + 1 => by
    rw [le_s a j t (h a (List.mem_cons_self ..)).2, le_z t (fun b hb => h b (List.mem_cons_of_mem _ hb)) j]
    show t.length ≤ j ↔ t.length + 1 ≤ j + 1
    omega
theorem le_lt : ∀ (l : List Nat), (∀ a ∈ l, a < 256) → le5 l < 256 ^ l.length
  | [], _ => by
    show 0 < 256 ^ 0
    omega
  | a :: t, h => by
    have h1 := h a (List.mem_cons_self ..)
    have h2 := le_lt t (fun b hb => h b (List.mem_cons_of_mem _ hb))
    show a + 256 * le5 t < 256 ^ (t.length + 1)
    rw [Nat.pow_succ]
    omega
theorem be_le : ∀ (l : List Nat), be5 l.reverse = le5 l
  | [] => rfl
  | a :: t => by
    have e := be_le t
    unfold be5 at e ⊢
    rw [List.reverse_cons, List.foldl_append, e]
    show 256 * le5 t + a = a + 256 * le5 t
    omega
theorem be_r (l : List Nat) : be5 l = le5 l.reverse := by
  have e := be_le l.reverse
  rwa [List.reverse_reverse] at e
theorem le_small {l : List Nat} (h : wOK l) : le5 l < 1099511627776 := by
  have a := le_lt l (fun a ha => by have := h.2.2 a ha; omega)
  have b : 256 ^ l.length ≤ 256 ^ 5 := Nat.pow_le_pow_right (by omega) h.2.1
  have d : 256 ^ 5 = 1099511627776 := by decide
  omega
theorem wOK.rev {l : List Nat} (h : wOK l) : wOK l.reverse := ⟨by rw [List.length_reverse]; exact h.1, by rw [List.length_reverse]; exact h.2.1, fun a ha => h.2.2 a (List.mem_reverse.mp ha)⟩
/-- a letter of a word of the class -/
theorem w_c {l : List Nat} (h : wOK l) {j : Nat} (hj : j ≤ 5) : ((Int64.ofNat (le5 l) >>> (((8 : Int32) * nI j).toInt64 &&& 63)) &&& (255 : Int64)).toInt32 = nI (l.getD j 0) := by
  have b := le_small h
  have e := shJ (n := le5 l) (by omega) j hj
  have e2 := lo8 (le5 l / 256 ^ j) (Nat.lt_of_le_of_lt (Nat.div_le_self _ _) (by omega))
  rw [le_at l (fun a ha => by have := h.2.2 a ha; omega)] at e2
  exact (congrArg (fun z : Int64 => (z &&& (255 : Int64)).toInt32) e).trans e2
theorem w_r {l : List Nat} (h : wOK l) {j : Nat} (hj : j < l.length) : ((Int64.ofNat (be5 l) >>> (((8 : Int32) * nI (l.length - 1 - j)).toInt64 &&& 63)) &&& (255 : Int64)).toInt32 = nI (l.getD j 0) := by
  have h5 := h.2.1
  have e := w_c h.rev (j := l.length - 1 - j) (by omega)
  rw [← be_r] at e
  rw [e]
  refine congrArg nI ?_
  rw [List.getD_eq_getElem?_getD, List.getD_eq_getElem?_getD, List.getElem?_reverse (by omega), show l.length - 1 - (l.length - 1 - j) = j by omega]
