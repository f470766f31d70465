/-! THE CLAIM OUT OF ONE WALK OF THE LAW'S BODY. Your part is whole_start (and what it stands on); all else here is the same for every law, but numbers. -/
def R_law : String := "OuterRowsLaw"
def lw_P (b : Addr) (xs : List Int32) (args : Array Value) (s : State) : Prop := args = #[.ref b] ∧ s.IntsAt b xs ∧ xs.length ≤ 3072 ∧ (Jvm.Cond.and given_1 narrow_1).before args s = true
def lw_Q (_ : Array Value) (s : State) (o : Outcome) (t : State) : Prop := o = .returned (some (.int 1)) ∧ Framed s o t [] 601024 7293034
def lw_Z (below : List Frame) (a : Array Value) (s : State) : State → Prop := fun t => ∃ o, t.status = .running ∧ Ended t below o ∧ lw_Q a s o t
/-- the law's own end, with 1 on the stack, nothing written that was there before, its room as the claim has it -/
theorem lw_ret {p : Program} {l : Launch} {e : Env} {s : State} {m : MethodId} {below : List Frame} {meth : Method} {c : Code} {b : Nat} (hx : p.tables.exec = Jvm.exec) (hb : c.code = code) (hr : meth.sig.returnType = ret) (hlocks : meth.locks = false) {pc : Nat} {H : Heap} {ls : Array Slot} (hdg : decode code pc = .ok (.ireturn, 1)) : W p l e room_1 s m #[Value.ref b] below meth c H [] 601024 7293034 (lw_Z below #[Value.ref b] s) (F0 m pc ls [.int 1]) := by
  intro T hT X
  obtain ⟨fs, hret, hrun, hended, hW, hframe⟩ := X.leave (v := some (.int 1)) (hlocks := hlocks) (fun h => by rw [hr] at h; cases h)
  have hmeth' : T.vm.method? m = some meth := X.method'
  refine ⟨T.setFrames fs, ?_, .returned (some (.int 1)), hrun, hended, rfl, ⟨_, rfl⟩, hW, hframe⟩
  jvm_step X.here [X.here.top, hx, hb, hdg, hmeth', hr, ret, narrow_b1]
  (try refine ⟨rfl, ?_⟩); (try refine ⟨rfl, ?_⟩)
  first | (intro acts; rw [hret _ acts rfl rfl rfl]) | rw [hret _ _ rfl rfl rfl]
  exact Steps.refl _
/-- what holds at the law's entry: the machine, the code, the tables' words (any of lw_tbl by 'hts w (by decide +kernel)'), the script of L ints xs at the cell b, what the Statement gives of the start (any of its parts by flat_of_before) -/
def lw_At (p : Program) (s : State) (m : MethodId) (meth : Method) (c : Code) (b L : Nat) (xs : Nat → Int32) : Prop :=
  p.tables.exec = Jvm.exec ∧ c.code = code ∧ meth.sig.returnType = ret ∧ c.maxLocals = 7 ∧ s.vm.findClass R_law = some m.cls ∧ (∀ w ∈ lw_tbl, w.before #[Value.ref b] s = true) ∧ va_X b L xs s s.heap ∧ b < s.heap.size ∧ meth.locks = false ∧ (Jvm.Cond.and given_1 narrow_1).before #[Value.ref b] s = true
theorem Rel.up {n : Nat} {cs : CS} {sm : MoT} (h : Rel n cs sm) : Rel (n + 1) cs sm := by
  have up : ∀ {kc vc : Nat} {s : OuBT}, RB n kc vc s sm → RB (n + 1) kc vc s sm := fun h => by
    obtain ⟨h1, h2, h3, T, h4, h5⟩ := h
    exact ⟨h1, h2, h3, T, by omega, h5.mono (by omega)⟩
  rcases cs with s | s | ⟨s, h'⟩
  · exact h
  · obtain ⟨k1, k2, kc, vc, k3⟩ := h
    exact ⟨k1, k2, kc, vc, up k3⟩
  · obtain ⟨kc, vc, k3, k4⟩ := h
    exact ⟨kc, vc, up k3, k4.ks ⟨rfl, rfl, rfl, fun _ _ _ => rfl⟩⟩
theorem and63 (v : Int32) : ∃ j, j < 64 ∧ v &&& (63 : Int32) = nI j := by
  refine ⟨v.toBitVec.toNat % 64, by omega, ?_⟩
  apply Int32.toBitVec_inj.mp
  rw [Int32.toBitVec_and]
  show v.toBitVec &&& BitVec.ofNat 32 63 = BitVec.ofNat 32 (v.toBitVec.toNat % 64)
  apply BitVec.eq_of_toNat_eq
  rw [BitVec.toNat_and, BitVec.toNat_ofNat, BitVec.toNat_ofNat, show 63 % 2 ^ 32 = 2 ^ 6 - 1 by decide, Nat.and_two_pow_sub_one_eq_mod, Nat.mod_eq_of_lt (a := v.toBitVec.toNat % 64) (by omega)]
section LAWZ
variable {p : Program} {l : Launch} {e : Env} {s : State} {m : MethodId} {below : List Frame} {meth : Method} {c : Code} {g : GK} {b L d : Nat} {am : Nat → Nat} {xs : Nat → Int32}
/-- the law's loop -/
theorem law_loop (hL : LE p c meth s m g b L xs) (hst : l.stackTraces = false) (hLen : L ≤ 3072) : ∀ (k n : Nat) (cs : CS) (sm : MoT) (a : Nat → Nat) (dv : Nat → Int64) (H : Heap) (locs : List Loc) (ls : Array Slot) (cells slots : Nat), Rel n cs sm → 6 * n ≤ L → L < 6 * (n + k) → cells ≤ 40 + 25 * n → slots ≤ 30000 + 6480 * n → LV ls b (a 0) (am 0) d (nI (6 * n)) →
    gP g (CSw g a cs ++ (CSp g a cs ++ (Mo_c g am sm ++ Lout g d dv))) H → va_D (lA s) (CSw g a cs ++ (CSp g a cs ++ (Mo_c g am sm ++ Lout g d dv))) → va_S (lA s) s.heap H locs → W p l e room_1 s m #[Value.ref b] below meth c H locs cells slots (lw_Z below #[Value.ref b] s) (F0 m 23 ls []) := by
  have hx := hL.1.1
  have hb := hL.1.2.1
  have hbA : ¬ lA s b := Nat.not_le.mpr hL.2.2.1
  intro k
  induction k with
  | zero =>
    intro n cs sm a dv H locs ls cells slots hR h1 h2
    exact absurd h2 (by omega)
  | succ k ih =>
    intro n cs sm a dv H locs ls cells slots hR h1 h2 hc hs hl hP hD hS
    have back : ∀ (cs' : CS) (sm' : MoT) (a' : Nat → Nat) (dv' : Nat → Int64) (ls1 : Array Slot) (H1 : Heap) (locs1 : List Loc), 6 * n + 6 ≤ L → Rel (n + 1) cs' sm' → LV ls1 b (a' 0) (am 0) d (nI (6 * n)) → gP g (CSw g a' cs' ++ (CSp g a' cs' ++ (Mo_c g am sm' ++ Lout g d dv'))) H1 → va_D (lA s) (CSw g a' cs' ++ (CSp g a' cs' ++ (Mo_c g am sm' ++ Lout g d dv'))) → va_S (lA s) s.heap H1 locs1 → W p l e room_1 s m #[Value.ref b] below meth c H1 locs1 (cells + 25) (slots + 6480) (lw_Z below #[Value.ref b] s) (F0 m 1571 ls1 []) := by
      intro cs' sm' a' dv' ls1 H1 locs1 hle hR' hl' hP' hD' hS'
      refine lv_iinc (v := nI (6 * (n + 1))) (lv' := [(4, .int (nI (6 * (n + 1)))), (0, .ref b), (1, .ref (a' 0)), (2, .ref (am 0)), (3, .ref d)]) hx hb dl_1571 hl' (k := 4) rfl (nI_add (6 * n) 6) (by decide) rfl (fun ls2 hl2 => ?_)
      refine lv_goto hx hb dl_1574 (tgt := 23) (by decide) ?_
      exact ih (n + 1) cs' sm' a' dv' H1 locs1 ls2 (cells + 25) (slots + 6480) hR' (by omega) (by omega) (by omega) (by omega) (lv_sub hl2 [1, 2, 3, 4, 0] rfl) hP' hD' hS'
    refine lv_iload hx hb dl_23 (lv_at hl 4 rfl) ?_
    refine lv_aload_n hx hb dl_25 rfl (lv_at hl 0 rfl) ?_
    refine va_slen hx hb hL.2.1 hL.2.2.1 hbA hS dl_26 ?_
    refine lv_bipush (v := 6) hx hb dl_27 (by decide) ?_
    refine lv_isub hx hb dl_29 ?_
    have e6 : (Int32.ofNat L - 6).toInt = (L : Int) - 6 := by
      have e0 : (Int32.ofNat L).toInt = (L : Int) := nI_toInt (n := L) (by omega)
      have e1 : (6 : Int32).toInt = 6 := by decide
      rw [subI (by omega) (by omega), e0, e1]
    have ei : (nI (6 * n)).toInt = ((6 * n : Nat) : Int) := nI_toInt (by omega)
    refine lv_icmp_gt (tgt := 1577) hx hb dl_30 (by decide) (fun c1 => ?_) (fun c1 => ?_)
    · refine lv_iconst (v := 1) hx hb dl_1577 (by decide) ?_
      refine va_forget (fun q hq => hS.2.2 q hq) ?_
      refine W.widen (k := 601024) (n := 7293034) (by omega) (by omega) ?_
      exact lw_ret hx hb hL.1.2.2.1 hL.1.2.2.2.1 dl_1578
    · have hle : 6 * n + 6 ≤ L := by
        rw [ltI, e6, ei] at c1
        omega
      have inn : ∀ t, t < 6 → vp_in (nI (6 * n + t)) L := fun t ht => vp_in_nI (by omega) (by omega)
      refine lv_aload_n hx hb dl_33 rfl (lv_at hl 0 rfl) ?_
      refine lv_iload hx hb dl_34 (lv_at hl 4 rfl) ?_
      refine va_sld hx hb hL.2.1 hL.2.2.1 hbA hS (inn 0 (by omega)) dl_36 ?_
      refine lv_bipush (v := 63) hx hb dl_37 (by decide) ?_
      refine lv_iand hx hb dl_39 ?_
      obtain ⟨j, hj, ej⟩ := and63 (xs (ix (nI (6 * n))))
      have ej' : xs (nI (6 * n)).toNatClampNeg &&& (63 : Int32) = nI j := ej
      rw [ej']
      by_cases h40 : j < 40
      · have hin : LI (nI (6 * n)) L := by
          have q : ∀ t : Nat, t < 6 → vp_in (nI (6 * n) + nI t) L := fun t ht => by rw [nI_add]; exact inn t ht
          exact ⟨q 1 (by omega), q 2 (by omega), q 3 (by omega), q 4 (by omega), q 5 (by omega)⟩
        exact lt_all h40 hL hst hl hin (by omega) hR ⟨by omega, by omega⟩ hP hD hS (fun cs' sm' a' dv' ls1 H1 locs1 hR' hl' hP' hD' hS' => back cs' sm' a' dv' ls1 H1 locs1 hle hR' hl' hP' hD' hS')
      · refine lv_tableOut (tgt := 1571) hx hb dl_40 (Or.inr (by rw [nI_toInt (by omega)]; omega)) (by decide) ?_
        refine W.widen (k := cells + 25) (n := slots + 6480) (by omega) (by omega) ?_
        exact back cs sm a dv ls H locs hle hR.up hl hP hD hS
end LAWZ
