/-! words: letters by shifts -/
abbrev wN (n : Nat) : Int64 := Int64.ofNat n
theorem sh64 (b : Int64) (k n : Nat) (hk : (b.toBitVec.smod 64).toNat = k) (hn : n < 9223372036854775808) : wN n >>> b = wN (n / 2 ^ k) := by
  have hm : (BitVec.ofNat 64 n).msb = false := by
    rw [BitVec.msb_eq_decide, decide_eq_false_iff_not, BitVec.toNat_ofNat]
    omega
  apply Int64.toBitVec_inj.mp
  rw [Int64.toBitVec_shiftRight, BitVec.sshiftRight', hk]
  show (BitVec.ofNat 64 n).sshiftRight k = BitVec.ofNat 64 (n / 2 ^ k)
  rw [BitVec.sshiftRight_eq_of_msb_false hm]
  apply BitVec.eq_of_toNat_eq
  rw [BitVec.toNat_ushiftRight, BitVec.toNat_ofNat, BitVec.toNat_ofNat, Nat.shiftRight_eq_div_pow, Nat.mod_eq_of_lt (by omega), Nat.mod_eq_of_lt (Nat.lt_of_le_of_lt (Nat.div_le_self _ _) (by omega))]
theorem shJ {n : Nat} (hn : n < 9223372036854775808) : ∀ j, j ≤ 5 → wN n >>> (((8 : Int32) * nI j).toInt64 &&& 63) = wN (n / 256 ^ j)
  | 0, _ => sh64 _ 0 n (by decide) hn
  | 1, _ => sh64 _ 8 n (by decide) hn
  | 2, _ => sh64 _ 16 n (by decide) hn
  | 3, _ => sh64 _ 24 n (by decide) hn
  | 4, _ => sh64 _ 32 n (by decide) hn
  | 5, _ => sh64 _ 40 n (by decide) hn
  | j + 6, h => absurd h (by omega)
theorem lo8 (n : Nat) (hn : n < 9223372036854775808) : (wN n &&& (255 : Int64)).toInt32 = nI (n % 256) := by
  have e : wN n &&& (255 : Int64) = wN (n % 256) := by
    apply Int64.toBitVec_inj.mp
    rw [Int64.toBitVec_and]
    show BitVec.ofNat 64 n &&& BitVec.ofNat 64 255 = BitVec.ofNat 64 (n % 256)
    apply BitVec.eq_of_toNat_eq
    rw [BitVec.toNat_and, BitVec.toNat_ofNat, BitVec.toNat_ofNat, BitVec.toNat_ofNat, Nat.mod_eq_of_lt (a := n) (by omega), show 255 % 2 ^ 64 = 2 ^ 8 - 1 by decide, Nat.and_two_pow_sub_one_eq_mod, Nat.mod_eq_of_lt (a := n % 256) (by omega)]
  rw [e]
  have h : n % 256 < 256 := Nat.mod_lt _ (by omega)
  generalize n % 256 = m at h
  revert m
  decide +kernel
