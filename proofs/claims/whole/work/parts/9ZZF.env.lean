/-! what holds at the law's entry -/
theorem inPl {big ws : List Cond} (ps : List Nat) (hp : ws = ps.filterMap (fun i => big[i]?)) : ∀ w ∈ ws, w ∈ big := by
  intro w hw
  rw [hp] at hw
  obtain ⟨i, _, hi⟩ := List.mem_filterMap.mp hw
  exact List.mem_of_getElem? hi
def stF : List Cond := flatC (Jvm.Cond.and given_1 narrow_1)
def stT (i : Nat) : Term := .string RX9 (strs.getD i (0, "")).1
def stV (i : Nat) : Term := .field (stT i) "java/lang/String" "value" "[B"
def stW (i : Nat) : List Cond := [.exactly (stT i) "java/lang/String", .eq (.field (stT i) "java/lang/String" "coder" "B") (.int 0), .arrayOf (stV i) .byte, .eq (.length (stV i)) (.int (Int32.ofNat (strL.getD i 0)))] ++ (List.range (strL.getD i 0)).map fun j => .eq (.elem (stV i) (.int (Int32.ofNat j))) (.int ((strB.getD i []).getD j 0))
def stN (j : Nat) : List Cond := (List.range j).map fun i => .not (.eq (stT i) (stT j))
def stO : List Cond := (List.range 100).map fun j => .eq (.elem (.static "java/lang/Integer" "DigitOnes" "[B") (.int (Int32.ofNat j))) (.int (digO j))
def stD : List Cond := (List.range 100).map fun j => .eq (.elem (.static "java/lang/Integer" "DigitTens" "[B") (.int (Int32.ofNat j))) (.int (digT j))

set_option maxRecDepth 100000 in
theorem stW_in : ∀ w ∈ (List.range 12).flatMap stW, w ∈ stF := inPl [243, 244, 245, 246, 247, 248, 249, 250, 252, 253, 254, 255, 256, 257, 258, 259, 260, 263, 264, 265, 266, 267, 268, 269, 270, 274, 275, 276, 277, 278, 279, 280, 281, 282, 287, 288, 289, 290, 291, 292, 293, 294, 300, 301, 302, 303, 304, 305, 306, 307, 314, 315, 316, 317, 318, 319, 320, 321, 329, 330, 331, 332, 333, 334, 335, 344, 345, 346, 347, 348, 349, 350, 351, 361, 362, 363, 364, 365, 366, 367, 368, 379, 380, 381, 382, 383, 384, 396, 397, 398, 399, 400, 401] (by decide +kernel)
set_option maxRecDepth 100000 in
theorem stN_in : ∀ w ∈ (List.range 12).flatMap stN, w ∈ stF := inPl [262, 272, 273, 284, 285, 286, 296, 297, 298, 299, 309, 310, 311, 312, 313, 323, 324, 325, 326, 327, 328, 337, 338, 339, 340, 341, 342, 343, 353, 354, 355, 356, 357, 358, 359, 360, 370, 371, 372, 373, 374, 375, 376, 377, 378, 386, 387, 388, 389, 390, 391, 392, 393, 394, 395, 403, 404, 405, 406, 407, 408, 409, 410, 411, 412, 413] (by decide +kernel)
set_option maxRecDepth 100000 in
theorem stO_in : ∀ w ∈ stO, w ∈ stF := inPl [12, 13, 14, 15, 16, 17, 18, 19, 20, 21, 22, 23, 24, 25, 26, 27, 28, 29, 30, 31, 32, 33, 34, 35, 36, 37, 38, 39, 40, 41, 42, 43, 44, 45, 46, 47, 48, 49, 50, 51, 52, 53, 54, 55, 56, 57, 58, 59, 60, 61, 62, 63, 64, 65, 66, 67, 68, 69, 70, 71, 72, 73, 74, 75, 76, 77, 78, 79, 80, 81, 82, 83, 84, 85, 86, 87, 88, 89, 90, 91, 92, 93, 94, 95, 96, 97, 98, 99, 100, 101, 102, 103, 104, 105, 106, 107, 108, 109, 110, 111] (by decide +kernel)
set_option maxRecDepth 100000 in
theorem stD_in : ∀ w ∈ stD, w ∈ stF := inPl [115, 116, 117, 118, 119, 120, 121, 122, 123, 124, 125, 126, 127, 128, 129, 130, 131, 132, 133, 134, 135, 136, 137, 138, 139, 140, 141, 142, 143, 144, 145, 146, 147, 148, 149, 150, 151, 152, 153, 154, 155, 156, 157, 158, 159, 160, 161, 162, 163, 164, 165, 166, 167, 168, 169, 170, 171, 172, 173, 174, 175, 176, 177, 178, 179, 180, 181, 182, 183, 184, 185, 186, 187, 188, 189, 190, 191, 192, 193, 194, 195, 196, 197, 198, 199, 200, 201, 202, 203, 204, 205, 206, 207, 208, 209, 210, 211, 212, 213, 214] (by decide +kernel)
set_option maxRecDepth 100000 in
theorem nst_in : ∀ w ∈ nst.map (fun q => Cond.methodLinkNest q.1 q.2.1 q.2.2.1 q.2.2.2), w ∈ tables_1 := inPl [37, 43, 80, 143, 149, 383, 388, 390, 393, 421, 574, 769, 867, 868, 949, 1012] (by decide +kernel)
theorem sel_sub {C : String} {x y : MethodName} {s : State} {args : Array Value} (hy : y.cls ≠ "java/lang/invoke/MethodHandle" ∧ y.cls ≠ "java/lang/invoke/VarHandle") (hsel : (Cond.selects C x x).before args s = true) (hxy : x.cls = y.cls) (hpriv : (Cond.privateMethod y).before args s = true) (hinst : (Cond.instanceMethod y).before args s = true) : (Cond.selects C y y).before args s = true := by
  obtain ⟨c, r, mx, hc, _, hmx, _, kx, hkx, hni⟩ := Cond.selects_spec hsel
  obtain ⟨mk, methM, hnamed, hmethM, -, -⟩ := Cond.instanceMethod_spec hinst
  have hfound : s.methodFound? y.cls y.name y.desc = some mk := State.methodFound?_of_named hnamed hy
  have h1 : s.vm.findClass y.cls = some mk.cls := findClass_of_methodNamed hnamed
  have h2 : s.vm.findClass x.cls = some mx.cls := findClass_of_methodNamed hmx
  have hcls : mk.cls = mx.cls := by
    rw [hxy, h1] at h2
    exact Option.some.inj h2
  have hsel2 : selectMethod {} s.vm c mk = .method mk := selectMethod_private hmethM (Cond.privateMethod_at hpriv mk methM hnamed hmethM)
  simp only [Cond.before, Cond.holds, Cond.value, hc, hfound, hnamed, hsel2, hcls, hkx]
  simp
  exact hni
theorem tbl_ok {s : State} {b : Nat} (hts : ∀ w ∈ lw_tbl, w.before #[Value.ref b] s = true) : ∀ w ∈ TBL, w.before #[Value.ref b] s = true := by
  intro w hw
  rcases List.mem_append.mp hw with h | h
  · exact hts w (List.mem_filter.mp h).1
  · have hl : (Cond.selects "java/lang/StringBuilder" ⟨"java/lang/AbstractStringBuilder", "isLatin1", "()Z"⟩ ⟨"java/lang/AbstractStringBuilder", "isLatin1", "()Z"⟩).before #[Value.ref b] s = true := hts _ (in4 (List.mem_of_getElem? (i := 95) (by decide +kernel)))
    rcases List.mem_cons.mp h with h | h
    · subst h
      exact sel_sub ⟨by decide, by decide⟩ hl rfl (hts _ (in4 (List.mem_of_getElem? (i := 62) (by decide +kernel)))) (hts _ (in4 (List.mem_of_getElem? (i := 63) (by decide +kernel))))
    · rcases List.mem_cons.mp h with h | h
      · subst h
        exact sel_sub ⟨by decide, by decide⟩ hl rfl (hts _ (in4 (List.mem_of_getElem? (i := 66) (by decide +kernel)))) (hts _ (in4 (List.mem_of_getElem? (i := 67) (by decide +kernel))))
      · cases h
theorem env_K {s : State} {b : Nat} (hts : ∀ w ∈ lw_tbl, w.before #[Value.ref b] s = true) : ∃ (D : va_G) (ci cl cb : ClassId), va_K D vwCl [(ci, .int), (cl, .long), (cb, .byte)] s := by
  have hT := tbl_ok hts
  obtain ⟨c0, i0, k0⟩ := u_known (C := RJ4) (T := TJ4) (N := 4) (n := 4) hT okJ4.2.1 (hts (.instantiable RJ4 4) (in4 (List.mem_of_getElem? (i := 20) (by decide +kernel))))
  obtain ⟨c1, i1, k1⟩ := u_known (C := RX0) (T := TX0) (N := 5) (n := 5) hT okX0.2.1 (hT _ inst_X0)
  obtain ⟨c2, i2, k2⟩ := u_known (C := RX1) (T := TX1) (N := 12) (n := 12) hT okX1.2.1 (hT _ inst_X1)
  obtain ⟨c3, i3, k3⟩ := u_known (C := RX2) (T := TX2) (N := 11) (n := 11) hT okX2.2.1 (hT _ inst_X2)
  obtain ⟨c4, i4, k4⟩ := u_known (C := RX3) (T := TX3) (N := 12) (n := 12) hT okX3.2.1 (hT _ inst_X3)
  obtain ⟨c5, i5, k5⟩ := u_known (C := RX4) (T := TX4) (N := 5) (n := 5) hT okX4.2.1 (hT _ inst_X4)
  obtain ⟨c6, i6, k6⟩ := u_known (C := RX5) (T := TX5) (N := 3) (n := 3) hT okX5.2.1 (hT _ inst_X5)
  obtain ⟨c7, i7, k7⟩ := u_known (C := RX6) (T := TX6) (N := 8) (n := 8) hT okX6.2.1 (hT _ inst_X6)
  obtain ⟨c8, i8, k8⟩ := u_known (C := RX7) (T := TX7) (N := 2) (n := 2) hT okX7.2.1 (hT _ inst_X7)
  obtain ⟨c9, i9, k9⟩ := u_known (C := RX8) (T := TX8) (N := 9) (n := 9) hT okX8.2.1 (hT _ inst_X8)
  obtain ⟨c10, i10, k10⟩ := u_known (C := RX9) (T := TX9) (N := 36) (n := 36) hT okX9.2.1 (hT _ inst_X9)
  obtain ⟨aI, kI, oI, hI1, hI2, hI3⟩ := Cond.arrayClass_spec (hT _ kac_i)
  obtain ⟨aL, kL, oL, hL1, hL2, hL3⟩ := Cond.arrayClass_spec (hT _ kac_l)
  obtain ⟨aB, kB, oB, hB1, hB2, hB3⟩ := Cond.arrayClass_spec (hT _ kac_b)
  refine ⟨(fun k => match k with | 0 => c0 | 1 => c1 | 2 => c2 | 3 => c3 | 4 => c4 | 5 => c5 | 6 => c6 | 7 => c7 | 8 => c8 | 9 => c9 | _ => c10, fun k => match k with | 0 => i0 | 1 => i1 | 2 => i2 | 3 => i3 | 4 => i4 | 5 => i5 | 6 => i6 | 7 => i7 | 8 => i8 | 9 => i9 | _ => i10), aI, aL, aB, fun k q hq => ?_, fun k q hq => ?_⟩
  · match k, hq with
    | 0, hq => cases hq; exact k0
    | 1, hq => cases hq; exact k1
    | 2, hq => cases hq; exact k2
    | 3, hq => cases hq; exact k3
    | 4, hq => cases hq; exact k4
    | 5, hq => cases hq; exact k5
    | 6, hq => cases hq; exact k6
    | 7, hq => cases hq; exact k7
    | 8, hq => cases hq; exact k8
    | 9, hq => cases hq; exact k9
    | 10, hq => cases hq; exact k10
    | k + 11, hq => simp [vwCl] at hq
  · match k, hq with
    | 0, hq => cases hq; exact ⟨fun n z => ⟨fun k h => (by cases h), kI, hI2, oI, hI3⟩, hI1⟩
    | 1, hq => cases hq; exact ⟨fun n z => ⟨fun k h => (by cases h), kL, hL2, oL, hL3⟩, hL1⟩
    | 2, hq => cases hq; exact ⟨fun n z => ⟨fun k h => (by cases h), kB, hB2, oB, hB3⟩, hB1⟩
    | k + 3, hq => simp at hq
/-- the law at its entry -/
theorem env_ok {p : Program} {s : State} {m : MethodId} {meth : Method} {c : Code} {b L : Nat} {xs : Nat → Int32} (C0 : lw_At p s m meth c b L xs) : ∃ g : GK, LE p c meth s m g b L xs := by
  obtain ⟨hx, hb, hr, hml, hown, hts, hX, hbl, hlocks, hgv⟩ := C0
  have hs : ∀ w ∈ stF, w.before #[Value.ref b] s = true := flat_of_before _ hgv
  have hA : ∀ a : Nat, a < s.heap.size → ¬ lA s a := fun a h => Nat.not_le.mpr h
  obtain ⟨D, ci, cl, cb, hK⟩ := env_K hts
  have mW : ∀ i w, i < 12 → w ∈ stW i → w.before #[Value.ref b] s = true := fun i w hi hw => hs w (stW_in w (List.mem_flatMap.mpr ⟨i, List.mem_range.mpr hi, hw⟩))
  have mN : ∀ i j, i < j → j < 12 → (Cond.not (.eq (stT i) (stT j))).before #[Value.ref b] s = true := fun i j hij hj => hs _ (stN_in _ (List.mem_flatMap.mpr ⟨j, List.mem_range.mpr hj, List.mem_map.mpr ⟨i, List.mem_range.mpr hij, rfl⟩⟩))
  obtain ⟨adK, adV, hS, hev⟩ := vk_Sof (args := #[Value.ref b]) (s := s) (N := 12) (tm := stT) (len := strL) (byt := strB) (A := lA s) (by decide) (fun i hi => mW i _ hi (List.mem_append_left _ (.head _))) (fun i hi => mW i _ hi (List.mem_append_left _ (.tail _ (.head _)))) (fun i hi => mW i _ hi (List.mem_append_left _ (.tail _ (.tail _ (.head _))))) (fun i hi => mW i _ hi (List.mem_append_left _ (.tail _ (.tail _ (.tail _ (.head _)))))) (fun i hi j hj => mW i _ hi (List.mem_append_right _ (List.mem_map.mpr ⟨j, List.mem_range.mpr hj, rfl⟩))) (fun i j hi hj hij => by
    rcases Nat.lt_or_gt_of_ne hij with h | h
    · exact Or.inl (mN i j h hj)
    · exact Or.inr (mN j i h hi)) hA
  obtain ⟨tK, _, _, _, eK, _⟩ := Cond.exactly_spec (args := #[Value.ref b]) (first := s) (o := none) (s := s) (idx := []) (t := .string RX8 323) (cls := "java/lang/String") (hs _ (List.mem_of_getElem? (i := 228) (by decide +kernel)))
  obtain ⟨tT, eT, hT⟩ := va_Tof (args := #[Value.ref b]) (s := s) (tm := .static "java/lang/Integer" "DigitTens" "[B") (ty := .byte) (N := 100) (f := fun j => .int (digT j)) (A := lA s) (by decide) (hs _ (List.mem_of_getElem? (i := 113) (by decide +kernel))) (va_eqt (hs (.eq (.length (.static "java/lang/Integer" "DigitTens" "[B")) (.int 100)) (List.mem_of_getElem? (i := 114) (by decide +kernel)))) (fun j hj => va_eqt (hs _ (stD_in _ (List.mem_map.mpr ⟨j, List.mem_range.mpr hj, rfl⟩)))) hA
  obtain ⟨tO, eO, hO⟩ := va_Tof (args := #[Value.ref b]) (s := s) (tm := .static "java/lang/Integer" "DigitOnes" "[B") (ty := .byte) (N := 100) (f := fun j => .int (digO j)) (A := lA s) (by decide) (hs _ (List.mem_of_getElem? (i := 10) (by decide +kernel))) (va_eqt (hs (.eq (.length (.static "java/lang/Integer" "DigitOnes" "[B")) (.int 100)) (List.mem_of_getElem? (i := 11) (by decide +kernel)))) (fun j hj => va_eqt (hs _ (stO_in _ (List.mem_map.mpr ⟨j, List.mem_range.mpr hj, rfl⟩)))) hA
  refine ⟨(D, ci, cl, cb, fun k => if k < 20 then adK k else if k < 40 then adV (k - 20) else if k = 40 then tT else if k = 41 then tO else tK), ⟨hx, hb, hr, hlocks, hml, hown, tbl_ok hts, hK, ?_, ?_, ?_⟩, hX, hbl, ⟨?_, ?_, ?_, ?_, ?_, ?_, ?_, ?_, ?_⟩, ?_, ?_, ?_, ?_⟩
  · intro q hq
    exact va_Nw.of rfl (hts _ (inT (nst_in _ (List.mem_map.mpr ⟨q, hq, rfl⟩))))
  · intro i q hq
    match i, hq with
    | 0, hq => cases hq; exact vk_R.of (A := #[Value.ref b]) (hts _ (in6 (List.mem_of_getElem? (i := 187) (by decide +kernel)))) (hev 0 (by decide))
    | 1, hq => cases hq; exact vk_R.of (A := #[Value.ref b]) (hts _ (in6 (List.mem_of_getElem? (i := 225) (by decide +kernel)))) (hev 1 (by decide))
    | 2, hq => cases hq; exact vk_R.of (A := #[Value.ref b]) (hts _ (in6 (List.mem_of_getElem? (i := 226) (by decide +kernel)))) (hev 2 (by decide))
    | 3, hq => cases hq; exact vk_R.of (A := #[Value.ref b]) (hts _ (in6 (List.mem_of_getElem? (i := 227) (by decide +kernel)))) (hev 3 (by decide))
    | 4, hq => cases hq; exact vk_R.of (A := #[Value.ref b]) (hts _ (in6 (List.mem_of_getElem? (i := 228) (by decide +kernel)))) (hev 4 (by decide))
    | 5, hq => cases hq; exact vk_R.of (A := #[Value.ref b]) (hts _ (in6 (List.mem_of_getElem? (i := 229) (by decide +kernel)))) (hev 5 (by decide))
    | 6, hq => cases hq; exact vk_R.of (A := #[Value.ref b]) (hts _ (in6 (List.mem_of_getElem? (i := 238) (by decide +kernel)))) (hev 6 (by decide))
    | 7, hq => cases hq; exact vk_R.of (A := #[Value.ref b]) (hts _ (in6 (List.mem_of_getElem? (i := 239) (by decide +kernel)))) (hev 7 (by decide))
    | 8, hq => cases hq; exact vk_R.of (A := #[Value.ref b]) (hts _ (in7 (List.mem_of_getElem? (i := 12) (by decide +kernel)))) (hev 8 (by decide))
    | 9, hq => cases hq; exact vk_R.of (A := #[Value.ref b]) (hts _ (in7 (List.mem_of_getElem? (i := 13) (by decide +kernel)))) (hev 9 (by decide))
    | 10, hq => cases hq; exact vk_R.of (A := #[Value.ref b]) (hts _ (in7 (List.mem_of_getElem? (i := 14) (by decide +kernel)))) (hev 10 (by decide))
    | 11, hq => cases hq; exact vk_R.of (A := #[Value.ref b]) (hts _ (in7 (List.mem_of_getElem? (i := 15) (by decide +kernel)))) (hev 11 (by decide))
    | i + 12, hq => simp [strs] at hq
  · exact vk_R.of (A := #[Value.ref b]) (hts _ (in5 (List.mem_of_getElem? (i := 235) (by decide +kernel)))) eK
  · refine ⟨fun i hi => ?_, fun i j hi hj e => ?_⟩
    · have h := hS.1 i hi
      have e1 : (if i < 20 then adK i else if i < 40 then adV (i - 20) else if i = 40 then tT else if i = 41 then tO else tK) = adK i := if_pos (by omega)
      have e2 : (if i + 20 < 20 then adK (i + 20) else if i + 20 < 40 then adV (i + 20 - 20) else if i + 20 = 40 then tT else if i + 20 = 41 then tO else tK) = adV i := by rw [if_neg (by omega), if_pos (by omega), Nat.add_sub_cancel]
      rw [← e1, ← e2] at h
      exact h
    · have e1 : (if i < 20 then adK i else if i < 40 then adV (i - 20) else if i = 40 then tT else if i = 41 then tO else tK) = adK i := if_pos (by omega)
      have e2 : (if j < 20 then adK j else if j < 40 then adV (j - 20) else if j = 40 then tT else if j = 41 then tO else tK) = adK j := if_pos (by omega)
      exact hS.2 i j hi hj (e1.symm.trans (Eq.trans e e2))
  · exact va_Zof (args := #[Value.ref b]) (hts _ (in4 (List.mem_of_getElem? (i := 29) (by decide +kernel)))) (hts _ (in1 (List.mem_of_getElem? (i := 14) (by decide +kernel)))) (va_eqt (hs _ (List.mem_of_getElem? (i := 4) (by decide +kernel)))) hA
  · exact va_Zref (args := #[Value.ref b]) (hts _ (in4 (List.mem_of_getElem? (i := 165) (by decide +kernel)))) (hts _ (in1 (List.mem_of_getElem? (i := 22) (by decide +kernel)))) eT hA
  · exact hT
  · exact va_Zref (args := #[Value.ref b]) (hts _ (in4 (List.mem_of_getElem? (i := 163) (by decide +kernel)))) (hts _ (in1 (List.mem_of_getElem? (i := 22) (by decide +kernel)))) eO hA
  · exact hO
  · exact vx_Zqof (args := #[Value.ref b]) (hts _ (in5 (List.mem_of_getElem? (i := 223) (by decide +kernel)))) (hts _ (in1 (List.mem_of_getElem? (i := 23) (by decide +kernel)))) (hs _ (List.mem_of_getElem? (i := 215) (by decide +kernel))) hA
  · exact vx_Zqof (args := #[Value.ref b]) (hts _ (in5 (List.mem_of_getElem? (i := 225) (by decide +kernel)))) (hts _ (in1 (List.mem_of_getElem? (i := 23) (by decide +kernel)))) (hs _ (List.mem_of_getElem? (i := 216) (by decide +kernel))) hA
  · exact va_Zqof (args := #[Value.ref b]) (hts _ (in4 (List.mem_of_getElem? (i := 120) (by decide +kernel)))) (hts _ (in1 (List.mem_of_getElem? (i := 16) (by decide +kernel)))) (hs _ (List.mem_of_getElem? (i := 5) (by decide +kernel))) hA
  · exact va_Nw.of rfl (hts (.castable xN xN) (in5 (List.mem_of_getElem? (i := 198) (by decide +kernel))))
  · exact va_Nw.of rfl (hts (.declares (Bundle.initS xS)) (in5 (List.mem_of_getElem? (i := 200) (by decide +kernel))))
  · exact va_Nw.of rfl (hts (.declares (Bundle.initS "java/lang/Exception")) (in5 (List.mem_of_getElem? (i := 202) (by decide +kernel))))
  · exact va_Nw.of rfl (hts (.declares (Bundle.initS Bundle.tN)) (in5 (List.mem_of_getElem? (i := 204) (by decide +kernel))))
