/-! one turn of the law's loop, case by case -/
theorem RB.thr {n kc vc : Nat} {s : OuBT} {sm : MoT} (v : Int32) (h : RB n kc vc s sm) : RB (n + 1) kc vc s (Mo_w_thrown sm v) := by
  obtain ⟨⟨⟨t, h1, h1', h1''⟩, h1b⟩, ⟨h2, h2', h2''⟩, h3, T, h4, h5⟩ := h
  refine ⟨⟨⟨t, h1, h1', (zf_taped_thrown _ _).trans h1''⟩, fun i hi => by rw [zf_tape_thrown]; exact h1b i hi⟩, ⟨(zf_trouble_thrown _ _).trans h2, (zf_fault_thrown _ _).trans h2', (zf_wrongAt_thrown _ _).trans h2''⟩, (zf_isThere_thrown _ _).trans h3, T, by omega, ?_⟩
  rw [zf_words_thrown, zf_x_thrown]
  exact h5.mono (by omega)
theorem RN.thr {s : OuNT} {sm : MoT} (v : Int32) (h : RN s sm) : RN s (Mo_w_thrown sm v) := by
  obtain ⟨⟨⟨t, h1, h1', h1''⟩, h1b⟩, ⟨h2, h2', h2''⟩, h3, h4, h5⟩ := h
  exact ⟨⟨⟨t, h1, h1', (zf_taped_thrown _ _).trans h1''⟩, fun i hi => by rw [zf_tape_thrown]; exact h1b i hi⟩, ⟨(zf_trouble_thrown _ _).trans h2, (zf_fault_thrown _ _).trans h2', (zf_wrongAt_thrown _ _).trans h2''⟩, h3, (zf_isThere_thrown _ _).trans h4, (zf_hasImage_thrown _ _).trans h5⟩
theorem KS.thr (s : OuBT) (sm : MoT) (v : Int32) : KS s sm s (Mo_w_thrown sm v) := ⟨rfl, zf_hasImage_thrown _ _, zf_words_thrown _ _, fun i _ _ => congrFun (zf_x_thrown _ _) i⟩
theorem single_N {s : OuNT} {sm : MoT} (h : RN s sm) (p1 : Int32) : f_X9_single sm p1 = some (0, Mo_w_thrown sm 1) := by
  have e : ∀ (K1 : Int32 → Option (Int32 × MoT)) (K3 : Unit → Option (Int32 × MoT)) (g : Nat), f_X9_single_L9_6 sm p1 K1 K3 (g + 1) 0 0 = K3 () := fun K1 K3 g => by
    rw [f_X9_single_L9_6]
    exact if_pos h.2.2.2.1
  unfold f_X9_single
  exact eg (eg (e _ _ 9999))
theorem th_at (sm : MoT) (v : Int32) : f_X9_thrown (Mo_w_thrown sm v) = some v := rfl
theorem d34 : ∀ s p tx, f_text dg s p = some tx → tx.length < 35 := by
  intro s p tx h
  unfold f_text at h
  obtain ⟨_, _, h⟩ := gbd h
  obtain ⟨_, _, h⟩ := gbd h
  obtain ⟨_, _, h⟩ := gbd h
  obtain ⟨_, _, h⟩ := gbd h
  obtain ⟨_, _, h⟩ := gbd h
  obtain ⟨_, _, h⟩ := gbd h
  obtain ⟨_, _, h⟩ := gbd h
  obtain ⟨_, _, h⟩ := gbd h
  obtain ⟨_, _, h⟩ := gbd h
  obtain ⟨_, h⟩ := ggd h
  obtain ⟨h1, h2⟩ := ggd h
  have h3 := Option.some.inj h2
  rw [← h3, List.length_append]
  exact h1
section LAWT
variable {p : Program} {l : Launch} {e : Env} {s : State} {m : MethodId} {below : List Frame} {meth : Method} {c : Code} {H : Heap} {locs : List Loc} {cells slots : Nat} {Q : State → Prop} {g : GK} {ls : Array Slot} {b L d : Nat} {am a : Nat → Nat} {xs : Nat → Int32} {i : Int32} {cs : CS} {sm : MoT} {dv : Nat → Int64} {n : Nat}
/-- how the turn goes on -/
abbrev LN (p : Program) (l : Launch) (e : Env) (s : State) (m : MethodId) (below : List Frame) (meth : Method) (c : Code) (cells slots : Nat) (Q : State → Prop) (g : GK) (b d : Nat) (am : Nat → Nat) (i : Int32) (n : Nat) : Prop := ∀ (cs' : CS) (sm' : MoT) (a' : Nat → Nat) (dv' : Nat → Int64) (ls1 : Array Slot) (H1 : Heap) (locs1 : List Loc), Rel (n + 1) cs' sm' → LV ls1 b (a' 0) (am 0) d i → gP g (CSw g a' cs' ++ (CSp g a' cs' ++ (Mo_c g am sm' ++ Lout g d dv'))) H1 → va_D (lA s) (CSw g a' cs' ++ (CSp g a' cs' ++ (Mo_c g am sm' ++ Lout g d dv'))) → va_S (lA s) s.heap H1 locs1 → W p l e room_1 s m #[Value.ref b] below meth c H1 locs1 (cells + 25) (slots + 6480) Q (F0 m 1571 ls1 [])

theorem ltn_0 (hL : LE p c meth s m g b L xs) (hst : l.stackTraces = false) (hl : LV ls b (a 0) (am 0) d i) (hin : LI i L) (hn : n < 512) (hR : Rel n cs sm) (hcs : cells + 25 ≤ 601024 ∧ slots + 6480 ≤ 7293034) (hP : gP g (CSw g a cs ++ (CSp g a cs ++ (Mo_c g am sm ++ Lout g d dv))) H) (hD : va_D (lA s) (CSw g a cs ++ (CSp g a cs ++ (Mo_c g am sm ++ Lout g d dv)))) (hS : va_S (lA s) s.heap H locs) (next : LN p l e s m below meth c cells slots Q g b d am i n) : W p l e room_1 s m #[Value.ref b] below meth c H locs cells slots Q (F0 m 40 ls [.int (nI 0)]) := by
  refine lv_tableIn (off := 176) (tgt := 216) hL.1.1 hL.1.2.1 dl_40 (by decide) (by decide) (by decide) (by decide) ?_
  obtain ⟨r, cs', sm', e1, e2, e3⟩ := st_feed n (sa xs i 1) (sa xs i 2) (sa xs i 3) (sa xs i 4) (sa xs i 5) hn cs sm hR
  exact ld_feed hL hl hin e1 e2 hcs hP hD hS (fun a' H1 locs1 ha hP hD hS => next cs' sm' a' dv ls H1 locs1 e3 (by rw [ha]; exact hl) hP hD hS)
theorem ltn_1 (hL : LE p c meth s m g b L xs) (hst : l.stackTraces = false) (hl : LV ls b (a 0) (am 0) d i) (hin : LI i L) (hn : n < 512) (hR : Rel n cs sm) (hcs : cells + 25 ≤ 601024 ∧ slots + 6480 ≤ 7293034) (hP : gP g (CSw g a cs ++ (CSp g a cs ++ (Mo_c g am sm ++ Lout g d dv))) H) (hD : va_D (lA s) (CSw g a cs ++ (CSp g a cs ++ (Mo_c g am sm ++ Lout g d dv)))) (hS : va_S (lA s) s.heap H locs) (next : LN p l e s m below meth c cells slots Q g b d am i n) : W p l e room_1 s m #[Value.ref b] below meth c H locs cells slots Q (F0 m 40 ls [.int (nI 1)]) := by
  refine lv_tableIn (off := 249) (tgt := 289) hL.1.1 hL.1.2.1 dl_40 (by decide) (by decide) (by decide) (by decide) ?_
  obtain ⟨r, cs', sm', e1, e2, e3⟩ := st_desk n (sa xs i 1) hn cs sm hR
  exact ld_desk hL hl hin e1 e2 hcs hP hD hS (fun a' H1 locs1 ha hP hD hS => next cs' sm' a' dv ls H1 locs1 e3 (by rw [ha]; exact hl) hP hD hS)
theorem ltn_2 (hL : LE p c meth s m g b L xs) (hst : l.stackTraces = false) (hl : LV ls b (a 0) (am 0) d i) (hin : LI i L) (hn : n < 512) (hR : Rel n cs sm) (hcs : cells + 25 ≤ 601024 ∧ slots + 6480 ≤ 7293034) (hP : gP g (CSw g a cs ++ (CSp g a cs ++ (Mo_c g am sm ++ Lout g d dv))) H) (hD : va_D (lA s) (CSw g a cs ++ (CSp g a cs ++ (Mo_c g am sm ++ Lout g d dv)))) (hS : va_S (lA s) s.heap H locs) (next : LN p l e s m below meth c cells slots Q g b d am i n) : W p l e room_1 s m #[Value.ref b] below meth c H locs cells slots Q (F0 m 40 ls [.int (nI 2)]) := by
  refine lv_tableIn (off := 274) (tgt := 314) hL.1.1 hL.1.2.1 dl_40 (by decide) (by decide) (by decide) (by decide) ?_
  obtain ⟨r, cs', sm', e1, e2, e3⟩ := st_more n (sa xs i 1) hn cs sm hR
  exact ld_more hL hl hin e1 e2 hcs hP hD hS (fun a' H1 locs1 ha hP hD hS => next cs' sm' a' dv ls H1 locs1 e3 (by rw [ha]; exact hl) hP hD hS)
theorem ltn_3 (hL : LE p c meth s m g b L xs) (hst : l.stackTraces = false) (hl : LV ls b (a 0) (am 0) d i) (hin : LI i L) (hn : n < 512) (hR : Rel n cs sm) (hcs : cells + 25 ≤ 601024 ∧ slots + 6480 ≤ 7293034) (hP : gP g (CSw g a cs ++ (CSp g a cs ++ (Mo_c g am sm ++ Lout g d dv))) H) (hD : va_D (lA s) (CSw g a cs ++ (CSp g a cs ++ (Mo_c g am sm ++ Lout g d dv)))) (hS : va_S (lA s) s.heap H locs) (next : LN p l e s m below meth c cells slots Q g b d am i n) : W p l e room_1 s m #[Value.ref b] below meth c H locs cells slots Q (F0 m 40 ls [.int (nI 3)]) := by
  refine lv_tableIn (off := 299) (tgt := 339) hL.1.1 hL.1.2.1 dl_40 (by decide) (by decide) (by decide) (by decide) ?_
  obtain ⟨r, cs', sm', e1, e2, e3⟩ := st_fault n  hn cs sm hR
  exact ld_fault hL hl hin e1 e2 hcs hP hD hS (fun a' H1 locs1 ha hP hD hS => next cs' sm' a' dv ls H1 locs1 e3 (by rw [ha]; exact hl) hP hD hS)
theorem ltn_4 (hL : LE p c meth s m g b L xs) (hst : l.stackTraces = false) (hl : LV ls b (a 0) (am 0) d i) (hin : LI i L) (hn : n < 512) (hR : Rel n cs sm) (hcs : cells + 25 ≤ 601024 ∧ slots + 6480 ≤ 7293034) (hP : gP g (CSw g a cs ++ (CSp g a cs ++ (Mo_c g am sm ++ Lout g d dv))) H) (hD : va_D (lA s) (CSw g a cs ++ (CSp g a cs ++ (Mo_c g am sm ++ Lout g d dv)))) (hS : va_S (lA s) s.heap H locs) (next : LN p l e s m below meth c cells slots Q g b d am i n) : W p l e room_1 s m #[Value.ref b] below meth c H locs cells slots Q (F0 m 40 ls [.int (nI 4)]) := by
  refine lv_tableIn (off := 312) (tgt := 352) hL.1.1 hL.1.2.1 dl_40 (by decide) (by decide) (by decide) (by decide) ?_
  obtain ⟨r, cs', sm', e1, e2, e3⟩ := st_where n  hn cs sm hR
  exact ld_where hL hl hin e1 e2 hcs hP hD hS (fun a' H1 locs1 ha hP hD hS => next cs' sm' a' dv ls H1 locs1 e3 (by rw [ha]; exact hl) hP hD hS)
theorem ltn_5 (hL : LE p c meth s m g b L xs) (hst : l.stackTraces = false) (hl : LV ls b (a 0) (am 0) d i) (hin : LI i L) (hn : n < 512) (hR : Rel n cs sm) (hcs : cells + 25 ≤ 601024 ∧ slots + 6480 ≤ 7293034) (hP : gP g (CSw g a cs ++ (CSp g a cs ++ (Mo_c g am sm ++ Lout g d dv))) H) (hD : va_D (lA s) (CSw g a cs ++ (CSp g a cs ++ (Mo_c g am sm ++ Lout g d dv)))) (hS : va_S (lA s) s.heap H locs) (next : LN p l e s m below meth c cells slots Q g b d am i n) : W p l e room_1 s m #[Value.ref b] below meth c H locs cells slots Q (F0 m 40 ls [.int (nI 5)]) := by
  refine lv_tableIn (off := 325) (tgt := 365) hL.1.1 hL.1.2.1 dl_40 (by decide) (by decide) (by decide) (by decide) ?_
  obtain ⟨r, cs', sm', e1, e2, e3⟩ := st_about n (sa xs i 1) hn cs sm hR
  exact ld_about hL hl hin e1 e2 hcs hP hD hS (fun a' H1 locs1 ha hP hD hS => next cs' sm' a' dv ls H1 locs1 e3 (by rw [ha]; exact hl) hP hD hS)
theorem ltn_6 (hL : LE p c meth s m g b L xs) (hst : l.stackTraces = false) (hl : LV ls b (a 0) (am 0) d i) (hin : LI i L) (hn : n < 512) (hR : Rel n cs sm) (hcs : cells + 25 ≤ 601024 ∧ slots + 6480 ≤ 7293034) (hP : gP g (CSw g a cs ++ (CSp g a cs ++ (Mo_c g am sm ++ Lout g d dv))) H) (hD : va_D (lA s) (CSw g a cs ++ (CSp g a cs ++ (Mo_c g am sm ++ Lout g d dv)))) (hS : va_S (lA s) s.heap H locs) (next : LN p l e s m below meth c cells slots Q g b d am i n) : W p l e room_1 s m #[Value.ref b] below meth c H locs cells slots Q (F0 m 40 ls [.int (nI 6)]) := by
  refine lv_tableIn (off := 350) (tgt := 390) hL.1.1 hL.1.2.1 dl_40 (by decide) (by decide) (by decide) (by decide) ?_
  obtain ⟨r, cs', sm', e1, e2, e3⟩ := st_letter n (sa xs i 1) (sa xs i 2) (sa xs i 3) hn cs sm hR
  exact ld_letter hL hl hin e1 e2 hcs hP hD hS (fun a' H1 locs1 ha hP hD hS => next cs' sm' a' dv ls H1 locs1 e3 (by rw [ha]; exact hl) hP hD hS)
theorem ltn_7 (hL : LE p c meth s m g b L xs) (hst : l.stackTraces = false) (hl : LV ls b (a 0) (am 0) d i) (hin : LI i L) (hn : n < 512) (hR : Rel n cs sm) (hcs : cells + 25 ≤ 601024 ∧ slots + 6480 ≤ 7293034) (hP : gP g (CSw g a cs ++ (CSp g a cs ++ (Mo_c g am sm ++ Lout g d dv))) H) (hD : va_D (lA s) (CSw g a cs ++ (CSp g a cs ++ (Mo_c g am sm ++ Lout g d dv)))) (hS : va_S (lA s) s.heap H locs) (next : LN p l e s m below meth c cells slots Q g b d am i n) : W p l e room_1 s m #[Value.ref b] below meth c H locs cells slots Q (F0 m 40 ls [.int (nI 7)]) := by
  refine lv_tableIn (off := 399) (tgt := 439) hL.1.1 hL.1.2.1 dl_40 (by decide) (by decide) (by decide) (by decide) ?_
  obtain ⟨r, cs', sm', e1, e2, e3⟩ := st_net n (sa xs i 1) (sa xs i 2) (sa xs i 3) hn cs sm hR
  exact ld_net hL hl hin e1 e2 hcs hP hD hS (fun a' H1 locs1 ha hP hD hS => next cs' sm' a' dv ls H1 locs1 e3 (by rw [ha]; exact hl) hP hD hS)
theorem ltn_8 (hL : LE p c meth s m g b L xs) (hst : l.stackTraces = false) (hl : LV ls b (a 0) (am 0) d i) (hin : LI i L) (hn : n < 512) (hR : Rel n cs sm) (hcs : cells + 25 ≤ 601024 ∧ slots + 6480 ≤ 7293034) (hP : gP g (CSw g a cs ++ (CSp g a cs ++ (Mo_c g am sm ++ Lout g d dv))) H) (hD : va_D (lA s) (CSw g a cs ++ (CSp g a cs ++ (Mo_c g am sm ++ Lout g d dv)))) (hS : va_S (lA s) s.heap H locs) (next : LN p l e s m below meth c cells slots Q g b d am i n) : W p l e room_1 s m #[Value.ref b] below meth c H locs cells slots Q (F0 m 40 ls [.int (nI 8)]) := by
  refine lv_tableIn (off := 448) (tgt := 488) hL.1.1 hL.1.2.1 dl_40 (by decide) (by decide) (by decide) (by decide) ?_
  obtain ⟨r, cs', sm', e1, e2, e3⟩ := st_there n (sa xs i 1) (sa xs i 2) hn cs sm hR
  exact ld_there hL hl hin e1 e2 hcs hP hD hS (fun a' H1 locs1 ha hP hD hS => next cs' sm' a' dv ls H1 locs1 e3 (by rw [ha]; exact hl) hP hD hS)
theorem ltn_9 (hL : LE p c meth s m g b L xs) (hst : l.stackTraces = false) (hl : LV ls b (a 0) (am 0) d i) (hin : LI i L) (hn : n < 512) (hR : Rel n cs sm) (hcs : cells + 25 ≤ 601024 ∧ slots + 6480 ≤ 7293034) (hP : gP g (CSw g a cs ++ (CSp g a cs ++ (Mo_c g am sm ++ Lout g d dv))) H) (hD : va_D (lA s) (CSw g a cs ++ (CSp g a cs ++ (Mo_c g am sm ++ Lout g d dv)))) (hS : va_S (lA s) s.heap H locs) (next : LN p l e s m below meth c cells slots Q g b d am i n) : W p l e room_1 s m #[Value.ref b] below meth c H locs cells slots Q (F0 m 40 ls [.int (nI 9)]) := by
  refine lv_tableIn (off := 485) (tgt := 525) hL.1.1 hL.1.2.1 dl_40 (by decide) (by decide) (by decide) (by decide) ?_
  obtain ⟨r, cs', sm', e1, e2, e3⟩ := st_key n (sa xs i 1) (sa xs i 2) hn cs sm hR
  exact ld_key hL hl hin e1 e2 hcs hP hD hS (fun a' H1 locs1 ha hP hD hS => next cs' sm' a' dv ls H1 locs1 e3 (by rw [ha]; exact hl) hP hD hS)
theorem ltn_10 (hL : LE p c meth s m g b L xs) (hst : l.stackTraces = false) (hl : LV ls b (a 0) (am 0) d i) (hin : LI i L) (hn : n < 512) (hR : Rel n cs sm) (hcs : cells + 25 ≤ 601024 ∧ slots + 6480 ≤ 7293034) (hP : gP g (CSw g a cs ++ (CSp g a cs ++ (Mo_c g am sm ++ Lout g d dv))) H) (hD : va_D (lA s) (CSw g a cs ++ (CSp g a cs ++ (Mo_c g am sm ++ Lout g d dv)))) (hS : va_S (lA s) s.heap H locs) (next : LN p l e s m below meth c cells slots Q g b d am i n) : W p l e room_1 s m #[Value.ref b] below meth c H locs cells slots Q (F0 m 40 ls [.int (nI 10)]) := by
  refine lv_tableIn (off := 522) (tgt := 562) hL.1.1 hL.1.2.1 dl_40 (by decide) (by decide) (by decide) (by decide) ?_
  obtain ⟨r, cs', sm', e1, e2, e3⟩ := st_debts n (sa xs i 1) hn cs sm hR
  exact ld_debts hL hl hin e1 e2 hcs hP hD hS (fun a' H1 locs1 ha hP hD hS => next cs' sm' a' dv ls H1 locs1 e3 (by rw [ha]; exact hl) hP hD hS)
theorem ltn_11 (hL : LE p c meth s m g b L xs) (hst : l.stackTraces = false) (hl : LV ls b (a 0) (am 0) d i) (hin : LI i L) (hn : n < 512) (hR : Rel n cs sm) (hcs : cells + 25 ≤ 601024 ∧ slots + 6480 ≤ 7293034) (hP : gP g (CSw g a cs ++ (CSp g a cs ++ (Mo_c g am sm ++ Lout g d dv))) H) (hD : va_D (lA s) (CSw g a cs ++ (CSp g a cs ++ (Mo_c g am sm ++ Lout g d dv)))) (hS : va_S (lA s) s.heap H locs) (next : LN p l e s m below meth c cells slots Q g b d am i n) : W p l e room_1 s m #[Value.ref b] below meth c H locs cells slots Q (F0 m 40 ls [.int (nI 11)]) := by
  refine lv_tableIn (off := 547) (tgt := 587) hL.1.1 hL.1.2.1 dl_40 (by decide) (by decide) (by decide) (by decide) ?_
  obtain ⟨r, cs', sm', e1, e2, e3⟩ := st_sent n (sa xs i 1) (sa xs i 2) (sa xs i 3) hn cs sm hR
  exact ld_sent hL hl hin e1 e2 hcs hP hD hS (fun a' H1 locs1 ha hP hD hS => next cs' sm' a' dv ls H1 locs1 e3 (by rw [ha]; exact hl) hP hD hS)
theorem ltn_12 (hL : LE p c meth s m g b L xs) (hst : l.stackTraces = false) (hl : LV ls b (a 0) (am 0) d i) (hin : LI i L) (hn : n < 512) (hR : Rel n cs sm) (hcs : cells + 25 ≤ 601024 ∧ slots + 6480 ≤ 7293034) (hP : gP g (CSw g a cs ++ (CSp g a cs ++ (Mo_c g am sm ++ Lout g d dv))) H) (hD : va_D (lA s) (CSw g a cs ++ (CSp g a cs ++ (Mo_c g am sm ++ Lout g d dv)))) (hS : va_S (lA s) s.heap H locs) (next : LN p l e s m below meth c cells slots Q g b d am i n) : W p l e room_1 s m #[Value.ref b] below meth c H locs cells slots Q (F0 m 40 ls [.int (nI 12)]) := by
  refine lv_tableIn (off := 596) (tgt := 636) hL.1.1 hL.1.2.1 dl_40 (by decide) (by decide) (by decide) (by decide) ?_
  obtain ⟨r, cs', sm', e1, e2, e3⟩ := st_join n (sa xs i 1) (sa xs i 2) (sa xs i 3) hn cs sm hR
  exact ld_join hL hl hin e1 e2 hcs hP hD hS (fun a' H1 locs1 ha hP hD hS => next cs' sm' a' dv ls H1 locs1 e3 (by rw [ha]; exact hl) hP hD hS)
theorem ltn_13 (hL : LE p c meth s m g b L xs) (hst : l.stackTraces = false) (hl : LV ls b (a 0) (am 0) d i) (hin : LI i L) (hn : n < 512) (hR : Rel n cs sm) (hcs : cells + 25 ≤ 601024 ∧ slots + 6480 ≤ 7293034) (hP : gP g (CSw g a cs ++ (CSp g a cs ++ (Mo_c g am sm ++ Lout g d dv))) H) (hD : va_D (lA s) (CSw g a cs ++ (CSp g a cs ++ (Mo_c g am sm ++ Lout g d dv)))) (hS : va_S (lA s) s.heap H locs) (next : LN p l e s m below meth c cells slots Q g b d am i n) : W p l e room_1 s m #[Value.ref b] below meth c H locs cells slots Q (F0 m 40 ls [.int (nI 13)]) := by
  refine lv_tableIn (off := 645) (tgt := 685) hL.1.1 hL.1.2.1 dl_40 (by decide) (by decide) (by decide) (by decide) ?_
  obtain ⟨r, cs', sm', e1, e2, e3⟩ := st_closed n (sa xs i 1) (sa xs i 2) (sa xs i 3) hn cs sm hR
  exact ld_closed hL hl hin e1 e2 hcs hP hD hS (fun a' H1 locs1 ha hP hD hS => next cs' sm' a' dv ls H1 locs1 e3 (by rw [ha]; exact hl) hP hD hS)
theorem ltn_14 (hL : LE p c meth s m g b L xs) (hst : l.stackTraces = false) (hl : LV ls b (a 0) (am 0) d i) (hin : LI i L) (hn : n < 512) (hR : Rel n cs sm) (hcs : cells + 25 ≤ 601024 ∧ slots + 6480 ≤ 7293034) (hP : gP g (CSw g a cs ++ (CSp g a cs ++ (Mo_c g am sm ++ Lout g d dv))) H) (hD : va_D (lA s) (CSw g a cs ++ (CSp g a cs ++ (Mo_c g am sm ++ Lout g d dv)))) (hS : va_S (lA s) s.heap H locs) (next : LN p l e s m below meth c cells slots Q g b d am i n) : W p l e room_1 s m #[Value.ref b] below meth c H locs cells slots Q (F0 m 40 ls [.int (nI 14)]) := by
  refine lv_tableIn (off := 694) (tgt := 734) hL.1.1 hL.1.2.1 dl_40 (by decide) (by decide) (by decide) (by decide) ?_
  obtain ⟨r, cs', sm', e1, e2, e3⟩ := st_rows n  hn cs sm hR
  exact ld_rows hL hl hin e1 e2 hcs hP hD hS (fun a' H1 locs1 ha hP hD hS => next cs' sm' a' dv ls H1 locs1 e3 (by rw [ha]; exact hl) hP hD hS)
theorem ltn_15 (hL : LE p c meth s m g b L xs) (hst : l.stackTraces = false) (hl : LV ls b (a 0) (am 0) d i) (hin : LI i L) (hn : n < 512) (hR : Rel n cs sm) (hcs : cells + 25 ≤ 601024 ∧ slots + 6480 ≤ 7293034) (hP : gP g (CSw g a cs ++ (CSp g a cs ++ (Mo_c g am sm ++ Lout g d dv))) H) (hD : va_D (lA s) (CSw g a cs ++ (CSp g a cs ++ (Mo_c g am sm ++ Lout g d dv)))) (hS : va_S (lA s) s.heap H locs) (next : LN p l e s m below meth c cells slots Q g b d am i n) : W p l e room_1 s m #[Value.ref b] below meth c H locs cells slots Q (F0 m 40 ls [.int (nI 15)]) := by
  refine lv_tableIn (off := 707) (tgt := 747) hL.1.1 hL.1.2.1 dl_40 (by decide) (by decide) (by decide) (by decide) ?_
  obtain ⟨r, cs', sm', e1, e2, e3⟩ := st_row n (sa xs i 1) (sa xs i 2) hn cs sm hR
  exact ld_row hL hl hin e1 e2 hcs hP hD hS (fun a' H1 locs1 ha hP hD hS => next cs' sm' a' dv ls H1 locs1 e3 (by rw [ha]; exact hl) hP hD hS)
theorem ltn_16 (hL : LE p c meth s m g b L xs) (hst : l.stackTraces = false) (hl : LV ls b (a 0) (am 0) d i) (hin : LI i L) (hn : n < 512) (hR : Rel n cs sm) (hcs : cells + 25 ≤ 601024 ∧ slots + 6480 ≤ 7293034) (hP : gP g (CSw g a cs ++ (CSp g a cs ++ (Mo_c g am sm ++ Lout g d dv))) H) (hD : va_D (lA s) (CSw g a cs ++ (CSp g a cs ++ (Mo_c g am sm ++ Lout g d dv)))) (hS : va_S (lA s) s.heap H locs) (next : LN p l e s m below meth c cells slots Q g b d am i n) : W p l e room_1 s m #[Value.ref b] below meth c H locs cells slots Q (F0 m 40 ls [.int (nI 16)]) := by
  refine lv_tableIn (off := 744) (tgt := 784) hL.1.1 hL.1.2.1 dl_40 (by decide) (by decide) (by decide) (by decide) ?_
  obtain ⟨r, cs', sm', e1, e2, e3⟩ := st_spell n (sa xs i 1) (sa xs i 2) hn cs sm hR
  exact ld_spell dg d_ok d34 hL hl hin e1 e2 hcs hP hD hS (fun a' H1 locs1 ha hP hD hS => next cs' sm' a' dv ls H1 locs1 e3 (by rw [ha]; exact hl) hP hD hS)
theorem ltn_17 (hL : LE p c meth s m g b L xs) (hst : l.stackTraces = false) (hl : LV ls b (a 0) (am 0) d i) (hin : LI i L) (hn : n < 512) (hR : Rel n cs sm) (hcs : cells + 25 ≤ 601024 ∧ slots + 6480 ≤ 7293034) (hP : gP g (CSw g a cs ++ (CSp g a cs ++ (Mo_c g am sm ++ Lout g d dv))) H) (hD : va_D (lA s) (CSw g a cs ++ (CSp g a cs ++ (Mo_c g am sm ++ Lout g d dv)))) (hS : va_S (lA s) s.heap H locs) (next : LN p l e s m below meth c cells slots Q g b d am i n) : W p l e room_1 s m #[Value.ref b] below meth c H locs cells slots Q (F0 m 40 ls [.int (nI 17)]) := by
  refine lv_tableIn (off := 781) (tgt := 821) hL.1.1 hL.1.2.1 dl_40 (by decide) (by decide) (by decide) (by decide) ?_
  obtain ⟨r, cs', sm', e1, e2, e3⟩ := st_traffic n (sa xs i 1) hn cs sm hR
  exact ld_traffic hL hl hin e1 e2 hcs hP hD hS (fun a' H1 locs1 ha hP hD hS => next cs' sm' a' dv ls H1 locs1 e3 (by rw [ha]; exact hl) hP hD hS)
theorem ltn_18 (hL : LE p c meth s m g b L xs) (hst : l.stackTraces = false) (hl : LV ls b (a 0) (am 0) d i) (hin : LI i L) (hn : n < 512) (hR : Rel n cs sm) (hcs : cells + 25 ≤ 601024 ∧ slots + 6480 ≤ 7293034) (hP : gP g (CSw g a cs ++ (CSp g a cs ++ (Mo_c g am sm ++ Lout g d dv))) H) (hD : va_D (lA s) (CSw g a cs ++ (CSp g a cs ++ (Mo_c g am sm ++ Lout g d dv)))) (hS : va_S (lA s) s.heap H locs) (next : LN p l e s m below meth c cells slots Q g b d am i n) : W p l e room_1 s m #[Value.ref b] below meth c H locs cells slots Q (F0 m 40 ls [.int (nI 18)]) := by
  refine lv_tableIn (off := 806) (tgt := 846) hL.1.1 hL.1.2.1 dl_40 (by decide) (by decide) (by decide) (by decide) ?_
  obtain ⟨r, cs', sm', e1, e2, e3⟩ := st_log n (sa xs i 1) (sa xs i 2) hn cs sm hR
  exact ld_log hL hl hin e1 e2 hcs hP hD hS (fun a' H1 locs1 ha hP hD hS => next cs' sm' a' dv ls H1 locs1 e3 (by rw [ha]; exact hl) hP hD hS)
theorem ltn_19 (hL : LE p c meth s m g b L xs) (hst : l.stackTraces = false) (hl : LV ls b (a 0) (am 0) d i) (hin : LI i L) (hn : n < 512) (hR : Rel n cs sm) (hcs : cells + 25 ≤ 601024 ∧ slots + 6480 ≤ 7293034) (hP : gP g (CSw g a cs ++ (CSp g a cs ++ (Mo_c g am sm ++ Lout g d dv))) H) (hD : va_D (lA s) (CSw g a cs ++ (CSp g a cs ++ (Mo_c g am sm ++ Lout g d dv)))) (hS : va_S (lA s) s.heap H locs) (next : LN p l e s m below meth c cells slots Q g b d am i n) : W p l e room_1 s m #[Value.ref b] below meth c H locs cells slots Q (F0 m 40 ls [.int (nI 19)]) := by
  refine lv_tableIn (off := 843) (tgt := 883) hL.1.1 hL.1.2.1 dl_40 (by decide) (by decide) (by decide) (by decide) ?_
  obtain ⟨r, cs', sm', e1, e2, e3⟩ := st_flips n (sa xs i 1) (sa xs i 2) hn cs sm hR
  exact ld_flips hL hl hin e1 e2 hcs hP hD hS (fun a' H1 locs1 ha hP hD hS => next cs' sm' a' dv ls H1 locs1 e3 (by rw [ha]; exact hl) hP hD hS)
theorem ltn_20 (hL : LE p c meth s m g b L xs) (hst : l.stackTraces = false) (hl : LV ls b (a 0) (am 0) d i) (hin : LI i L) (hn : n < 512) (hR : Rel n cs sm) (hcs : cells + 25 ≤ 601024 ∧ slots + 6480 ≤ 7293034) (hP : gP g (CSw g a cs ++ (CSp g a cs ++ (Mo_c g am sm ++ Lout g d dv))) H) (hD : va_D (lA s) (CSw g a cs ++ (CSp g a cs ++ (Mo_c g am sm ++ Lout g d dv)))) (hS : va_S (lA s) s.heap H locs) (next : LN p l e s m below meth c cells slots Q g b d am i n) : W p l e room_1 s m #[Value.ref b] below meth c H locs cells slots Q (F0 m 40 ls [.int (nI 20)]) := by
  refine lv_tableIn (off := 880) (tgt := 920) hL.1.1 hL.1.2.1 dl_40 (by decide) (by decide) (by decide) (by decide) ?_
  obtain ⟨r, cs', sm', e1, e2, e3⟩ := st_busiest n  hn cs sm hR
  exact ld_busiest hL hl hin e1 e2 hcs hP hD hS (fun a' H1 locs1 ha hP hD hS => next cs' sm' a' dv ls H1 locs1 e3 (by rw [ha]; exact hl) hP hD hS)
theorem ltn_21 (hL : LE p c meth s m g b L xs) (hst : l.stackTraces = false) (hl : LV ls b (a 0) (am 0) d i) (hin : LI i L) (hn : n < 512) (hR : Rel n cs sm) (hcs : cells + 25 ≤ 601024 ∧ slots + 6480 ≤ 7293034) (hP : gP g (CSw g a cs ++ (CSp g a cs ++ (Mo_c g am sm ++ Lout g d dv))) H) (hD : va_D (lA s) (CSw g a cs ++ (CSp g a cs ++ (Mo_c g am sm ++ Lout g d dv)))) (hS : va_S (lA s) s.heap H locs) (next : LN p l e s m below meth c cells slots Q g b d am i n) : W p l e room_1 s m #[Value.ref b] below meth c H locs cells slots Q (F0 m 40 ls [.int (nI 21)]) := by
  refine lv_tableIn (off := 893) (tgt := 933) hL.1.1 hL.1.2.1 dl_40 (by decide) (by decide) (by decide) (by decide) ?_
  obtain ⟨r, cs', sm', e1, e2, e3⟩ := st_dearest n  hn cs sm hR
  exact ld_dearest hL hl hin e1 e2 hcs hP hD hS (fun a' H1 locs1 ha hP hD hS => next cs' sm' a' dv ls H1 locs1 e3 (by rw [ha]; exact hl) hP hD hS)
theorem ltn_22 (hL : LE p c meth s m g b L xs) (hst : l.stackTraces = false) (hl : LV ls b (a 0) (am 0) d i) (hin : LI i L) (hn : n < 512) (hR : Rel n cs sm) (hcs : cells + 25 ≤ 601024 ∧ slots + 6480 ≤ 7293034) (hP : gP g (CSw g a cs ++ (CSp g a cs ++ (Mo_c g am sm ++ Lout g d dv))) H) (hD : va_D (lA s) (CSw g a cs ++ (CSp g a cs ++ (Mo_c g am sm ++ Lout g d dv)))) (hS : va_S (lA s) s.heap H locs) (next : LN p l e s m below meth c cells slots Q g b d am i n) : W p l e room_1 s m #[Value.ref b] below meth c H locs cells slots Q (F0 m 40 ls [.int (nI 22)]) := by
  refine lv_tableIn (off := 906) (tgt := 946) hL.1.1 hL.1.2.1 dl_40 (by decide) (by decide) (by decide) (by decide) ?_
  obtain ⟨r, cs', sm', e1, e2, e3⟩ := st_begin n (sa xs i 1) hn cs sm hR
  exact ld_begin hL hl hin e1 e2 hcs hP hD hS (fun a' H1 locs1 ha hP hD hS => next cs' sm' a' dv ls H1 locs1 e3 (by rw [ha]; exact hl) hP hD hS)
theorem ltn_23 (hL : LE p c meth s m g b L xs) (hst : l.stackTraces = false) (hl : LV ls b (a 0) (am 0) d i) (hin : LI i L) (hn : n < 512) (hR : Rel n cs sm) (hcs : cells + 25 ≤ 601024 ∧ slots + 6480 ≤ 7293034) (hP : gP g (CSw g a cs ++ (CSp g a cs ++ (Mo_c g am sm ++ Lout g d dv))) H) (hD : va_D (lA s) (CSw g a cs ++ (CSp g a cs ++ (Mo_c g am sm ++ Lout g d dv)))) (hS : va_S (lA s) s.heap H locs) (next : LN p l e s m below meth c cells slots Q g b d am i n) : W p l e room_1 s m #[Value.ref b] below meth c H locs cells slots Q (F0 m 40 ls [.int (nI 23)]) := by
  refine lv_tableIn (off := 931) (tgt := 971) hL.1.1 hL.1.2.1 dl_40 (by decide) (by decide) (by decide) (by decide) ?_
  obtain ⟨r, cs', sm', e1, e2, e3⟩ := st_pull n (sa xs i 1) hn cs sm hR
  exact ld_pull hL hl hin e1 e2 hcs hP hD hS (fun a' H1 locs1 ha hP hD hS => next cs' sm' a' dv ls H1 locs1 e3 (by rw [ha]; exact hl) hP hD hS)
theorem ltn_24 (hL : LE p c meth s m g b L xs) (hst : l.stackTraces = false) (hl : LV ls b (a 0) (am 0) d i) (hin : LI i L) (hn : n < 512) (hR : Rel n cs sm) (hcs : cells + 25 ≤ 601024 ∧ slots + 6480 ≤ 7293034) (hP : gP g (CSw g a cs ++ (CSp g a cs ++ (Mo_c g am sm ++ Lout g d dv))) H) (hD : va_D (lA s) (CSw g a cs ++ (CSp g a cs ++ (Mo_c g am sm ++ Lout g d dv)))) (hS : va_S (lA s) s.heap H locs) (next : LN p l e s m below meth c cells slots Q g b d am i n) : W p l e room_1 s m #[Value.ref b] below meth c H locs cells slots Q (F0 m 40 ls [.int (nI 24)]) := by
  refine lv_tableIn (off := 956) (tgt := 996) hL.1.1 hL.1.2.1 dl_40 (by decide) (by decide) (by decide) (by decide) ?_
  obtain ⟨r, cs', sm', e1, e2, e3⟩ := st_pulled n (sa xs i 1) (sa xs i 2) (sa xs i 3) hn cs sm hR
  exact ld_pulled hL hl hin e1 e2 hcs hP hD hS (fun a' H1 locs1 ha hP hD hS => next cs' sm' a' dv ls H1 locs1 e3 (by rw [ha]; exact hl) hP hD hS)
theorem ltn_25 (hL : LE p c meth s m g b L xs) (hst : l.stackTraces = false) (hl : LV ls b (a 0) (am 0) d i) (hin : LI i L) (hn : n < 512) (hR : Rel n cs sm) (hcs : cells + 25 ≤ 601024 ∧ slots + 6480 ≤ 7293034) (hP : gP g (CSw g a cs ++ (CSp g a cs ++ (Mo_c g am sm ++ Lout g d dv))) H) (hD : va_D (lA s) (CSw g a cs ++ (CSp g a cs ++ (Mo_c g am sm ++ Lout g d dv)))) (hS : va_S (lA s) s.heap H locs) (next : LN p l e s m below meth c cells slots Q g b d am i n) : W p l e room_1 s m #[Value.ref b] below meth c H locs cells slots Q (F0 m 40 ls [.int (nI 25)]) := by
  refine lv_tableIn (off := 1005) (tgt := 1045) hL.1.1 hL.1.2.1 dl_40 (by decide) (by decide) (by decide) (by decide) ?_
  obtain ⟨r, cs', sm', e1, e2, e3⟩ := st_held n (sa xs i 1) (sa xs i 2) (sa xs i 3) (sa xs i 4) hn cs sm hR
  exact ld_held hL hl hin e1 e2 hcs hP hD hS (fun a' H1 locs1 ha hP hD hS => next cs' sm' a' dv ls H1 locs1 e3 (by rw [ha]; exact hl) hP hD hS)
theorem ltn_26 (hL : LE p c meth s m g b L xs) (hst : l.stackTraces = false) (hl : LV ls b (a 0) (am 0) d i) (hin : LI i L) (hn : n < 512) (hR : Rel n cs sm) (hcs : cells + 25 ≤ 601024 ∧ slots + 6480 ≤ 7293034) (hP : gP g (CSw g a cs ++ (CSp g a cs ++ (Mo_c g am sm ++ Lout g d dv))) H) (hD : va_D (lA s) (CSw g a cs ++ (CSp g a cs ++ (Mo_c g am sm ++ Lout g d dv)))) (hS : va_S (lA s) s.heap H locs) (next : LN p l e s m below meth c cells slots Q g b d am i n) : W p l e room_1 s m #[Value.ref b] below meth c H locs cells slots Q (F0 m 40 ls [.int (nI 26)]) := by
  refine lv_tableIn (off := 1066) (tgt := 1106) hL.1.1 hL.1.2.1 dl_40 (by decide) (by decide) (by decide) (by decide) ?_
  obtain ⟨r, cs', sm', e1, e2, e3⟩ := st_lag n (sa xs i 1) (sa xs i 2) hn cs sm hR
  exact ld_lag hL hl hin e1 e2 hcs hP hD hS (fun a' H1 locs1 ha hP hD hS => next cs' sm' a' dv ls H1 locs1 e3 (by rw [ha]; exact hl) hP hD hS)
theorem ltn_27 (hL : LE p c meth s m g b L xs) (hst : l.stackTraces = false) (hl : LV ls b (a 0) (am 0) d i) (hin : LI i L) (hn : n < 512) (hR : Rel n cs sm) (hcs : cells + 25 ≤ 601024 ∧ slots + 6480 ≤ 7293034) (hP : gP g (CSw g a cs ++ (CSp g a cs ++ (Mo_c g am sm ++ Lout g d dv))) H) (hD : va_D (lA s) (CSw g a cs ++ (CSp g a cs ++ (Mo_c g am sm ++ Lout g d dv)))) (hS : va_S (lA s) s.heap H locs) (next : LN p l e s m below meth c cells slots Q g b d am i n) : W p l e room_1 s m #[Value.ref b] below meth c H locs cells slots Q (F0 m 40 ls [.int (nI 27)]) := by
  refine lv_tableIn (off := 1103) (tgt := 1143) hL.1.1 hL.1.2.1 dl_40 (by decide) (by decide) (by decide) (by decide) ?_
  obtain ⟨r, cs', sm', e1, e2, e3⟩ := st_would n (sa xs i 1) (sa xs i 2) (sa xs i 3) (sa xs i 4) (sa xs i 5) hn cs sm hR
  exact ld_would hL hl hin e1 e2 hcs hP hD hS (fun a' H1 locs1 ha hP hD hS => next cs' sm' a' dv ls H1 locs1 e3 (by rw [ha]; exact hl) hP hD hS)
theorem ltn_28 (hL : LE p c meth s m g b L xs) (hst : l.stackTraces = false) (hl : LV ls b (a 0) (am 0) d i) (hin : LI i L) (hn : n < 512) (hR : Rel n cs sm) (hcs : cells + 25 ≤ 601024 ∧ slots + 6480 ≤ 7293034) (hP : gP g (CSw g a cs ++ (CSp g a cs ++ (Mo_c g am sm ++ Lout g d dv))) H) (hD : va_D (lA s) (CSw g a cs ++ (CSp g a cs ++ (Mo_c g am sm ++ Lout g d dv)))) (hS : va_S (lA s) s.heap H locs) (next : LN p l e s m below meth c cells slots Q g b d am i n) : W p l e room_1 s m #[Value.ref b] below meth c H locs cells slots Q (F0 m 40 ls [.int (nI 28)]) := by
  refine lv_tableIn (off := 1176) (tgt := 1216) hL.1.1 hL.1.2.1 dl_40 (by decide) (by decide) (by decide) (by decide) ?_
  obtain ⟨r, cs', sm', e1, e2, e3⟩ := st_nextLapse n  hn cs sm hR
  exact ld_nextLapse hL hl hin e1 e2 hcs hP hD hS (fun a' H1 locs1 ha hP hD hS => next cs' sm' a' dv ls H1 locs1 e3 (by rw [ha]; exact hl) hP hD hS)
theorem ltn_29 (hL : LE p c meth s m g b L xs) (hst : l.stackTraces = false) (hl : LV ls b (a 0) (am 0) d i) (hin : LI i L) (hn : n < 512) (hR : Rel n cs sm) (hcs : cells + 25 ≤ 601024 ∧ slots + 6480 ≤ 7293034) (hP : gP g (CSw g a cs ++ (CSp g a cs ++ (Mo_c g am sm ++ Lout g d dv))) H) (hD : va_D (lA s) (CSw g a cs ++ (CSp g a cs ++ (Mo_c g am sm ++ Lout g d dv)))) (hS : va_S (lA s) s.heap H locs) (next : LN p l e s m below meth c cells slots Q g b d am i n) : W p l e room_1 s m #[Value.ref b] below meth c H locs cells slots Q (F0 m 40 ls [.int (nI 29)]) := by
  refine lv_tableIn (off := 1189) (tgt := 1229) hL.1.1 hL.1.2.1 dl_40 (by decide) (by decide) (by decide) (by decide) ?_
  obtain ⟨r, cs', sm', e1, e2, e3⟩ := st_replay n (sa xs i 1) (sa xs i 2) hn cs sm hR
  exact ld_replay hL hl hin e1 e2 hcs hP hD hS (fun a' H1 locs1 ha hP hD hS => next cs' sm' a' dv ls H1 locs1 e3 (by rw [ha]; exact hl) hP hD hS)
theorem ltn_30 (hL : LE p c meth s m g b L xs) (hst : l.stackTraces = false) (hl : LV ls b (a 0) (am 0) d i) (hin : LI i L) (hn : n < 512) (hR : Rel n cs sm) (hcs : cells + 25 ≤ 601024 ∧ slots + 6480 ≤ 7293034) (hP : gP g (CSw g a cs ++ (CSp g a cs ++ (Mo_c g am sm ++ Lout g d dv))) H) (hD : va_D (lA s) (CSw g a cs ++ (CSp g a cs ++ (Mo_c g am sm ++ Lout g d dv)))) (hS : va_S (lA s) s.heap H locs) (next : LN p l e s m below meth c cells slots Q g b d am i n) : W p l e room_1 s m #[Value.ref b] below meth c H locs cells slots Q (F0 m 40 ls [.int (nI 30)]) := by
  refine lv_tableIn (off := 1226) (tgt := 1266) hL.1.1 hL.1.2.1 dl_40 (by decide) (by decide) (by decide) (by decide) ?_
  obtain ⟨r, cs', sm', e1, e2, e3⟩ := st_cost n (sa xs i 1) hn cs sm hR
  exact ld_cost hL hl hin e1 e2 hcs hP hD hS (fun a' H1 locs1 ha hP hD hS => next cs' sm' a' dv ls H1 locs1 e3 (by rw [ha]; exact hl) hP hD hS)
theorem ltn_31 (hL : LE p c meth s m g b L xs) (hst : l.stackTraces = false) (hl : LV ls b (a 0) (am 0) d i) (hin : LI i L) (hn : n < 512) (hR : Rel n cs sm) (hcs : cells + 25 ≤ 601024 ∧ slots + 6480 ≤ 7293034) (hP : gP g (CSw g a cs ++ (CSp g a cs ++ (Mo_c g am sm ++ Lout g d dv))) H) (hD : va_D (lA s) (CSw g a cs ++ (CSp g a cs ++ (Mo_c g am sm ++ Lout g d dv)))) (hS : va_S (lA s) s.heap H locs) (next : LN p l e s m below meth c cells slots Q g b d am i n) : W p l e room_1 s m #[Value.ref b] below meth c H locs cells slots Q (F0 m 40 ls [.int (nI 31)]) := by
  refine lv_tableIn (off := 1251) (tgt := 1291) hL.1.1 hL.1.2.1 dl_40 (by decide) (by decide) (by decide) (by decide) ?_
  obtain ⟨r, cs', sm', e1, e2, e3⟩ := st_event n (sa xs i 1) (sa xs i 2) (sa xs i 3) (sa xs i 4) (sa xs i 5) hn cs sm hR
  exact ld_event hL hl hin e1 e2 hcs hP hD hS (fun a' H1 locs1 ha hP hD hS => next cs' sm' a' dv ls H1 locs1 e3 (by rw [ha]; exact hl) hP hD hS)
theorem ltn_32 (hL : LE p c meth s m g b L xs) (hst : l.stackTraces = false) (hl : LV ls b (a 0) (am 0) d i) (hin : LI i L) (hn : n < 512) (hR : Rel n cs sm) (hcs : cells + 25 ≤ 601024 ∧ slots + 6480 ≤ 7293034) (hP : gP g (CSw g a cs ++ (CSp g a cs ++ (Mo_c g am sm ++ Lout g d dv))) H) (hD : va_D (lA s) (CSw g a cs ++ (CSp g a cs ++ (Mo_c g am sm ++ Lout g d dv)))) (hS : va_S (lA s) s.heap H locs) (next : LN p l e s m below meth c cells slots Q g b d am i n) : W p l e room_1 s m #[Value.ref b] below meth c H locs cells slots Q (F0 m 40 ls [.int (nI 32)]) := by
  refine lv_tableIn (off := 1324) (tgt := 1364) hL.1.1 hL.1.2.1 dl_40 (by decide) (by decide) (by decide) (by decide) ?_
  obtain ⟨r, cs', sm', e1, e2, e3⟩ := st_tick n (sa xs i 1) hn cs sm hR
  exact ld_tick hL hl hin e1 e2 hcs hP hD hS (fun a' H1 locs1 ha hP hD hS => next cs' sm' a' dv ls H1 locs1 e3 (by rw [ha]; exact hl) hP hD hS)
theorem ltn_33 (hL : LE p c meth s m g b L xs) (hst : l.stackTraces = false) (hl : LV ls b (a 0) (am 0) d i) (hin : LI i L) (hn : n < 512) (hR : Rel n cs sm) (hcs : cells + 25 ≤ 601024 ∧ slots + 6480 ≤ 7293034) (hP : gP g (CSw g a cs ++ (CSp g a cs ++ (Mo_c g am sm ++ Lout g d dv))) H) (hD : va_D (lA s) (CSw g a cs ++ (CSp g a cs ++ (Mo_c g am sm ++ Lout g d dv)))) (hS : va_S (lA s) s.heap H locs) (next : LN p l e s m below meth c cells slots Q g b d am i n) : W p l e room_1 s m #[Value.ref b] below meth c H locs cells slots Q (F0 m 40 ls [.int (nI 33)]) := by
  refine lv_tableIn (off := 1349) (tgt := 1389) hL.1.1 hL.1.2.1 dl_40 (by decide) (by decide) (by decide) (by decide) ?_
  obtain ⟨r, cs', sm', e1, e2, e3⟩ := st_how n (sa xs i 1) hn cs sm hR
  exact ld_how hL hl hin e1 e2 hcs hP hD hS (fun a' H1 locs1 ha hP hD hS => next cs' sm' a' dv ls H1 locs1 e3 (by rw [ha]; exact hl) hP hD hS)
theorem ltn_34 (hL : LE p c meth s m g b L xs) (hst : l.stackTraces = false) (hl : LV ls b (a 0) (am 0) d i) (hin : LI i L) (hn : n < 512) (hR : Rel n cs sm) (hcs : cells + 25 ≤ 601024 ∧ slots + 6480 ≤ 7293034) (hP : gP g (CSw g a cs ++ (CSp g a cs ++ (Mo_c g am sm ++ Lout g d dv))) H) (hD : va_D (lA s) (CSw g a cs ++ (CSp g a cs ++ (Mo_c g am sm ++ Lout g d dv)))) (hS : va_S (lA s) s.heap H locs) (next : LN p l e s m below meth c cells slots Q g b d am i n) : W p l e room_1 s m #[Value.ref b] below meth c H locs cells slots Q (F0 m 40 ls [.int (nI 34)]) := by
  refine lv_tableIn (off := 1374) (tgt := 1414) hL.1.1 hL.1.2.1 dl_40 (by decide) (by decide) (by decide) (by decide) ?_
  obtain ⟨r, cs', sm', e1, e2, e3⟩ := st_bounds n (sa xs i 1) (sa xs i 2) hn cs sm hR
  exact ld_bounds hL hl hin e1 e2 hcs hP hD hS (fun a' H1 locs1 ha hP hD hS => next cs' sm' a' dv ls H1 locs1 e3 (by rw [ha]; exact hl) hP hD hS)
theorem ltn_35 (hL : LE p c meth s m g b L xs) (hst : l.stackTraces = false) (hl : LV ls b (a 0) (am 0) d i) (hin : LI i L) (hn : n < 512) (hR : Rel n cs sm) (hcs : cells + 25 ≤ 601024 ∧ slots + 6480 ≤ 7293034) (hP : gP g (CSw g a cs ++ (CSp g a cs ++ (Mo_c g am sm ++ Lout g d dv))) H) (hD : va_D (lA s) (CSw g a cs ++ (CSp g a cs ++ (Mo_c g am sm ++ Lout g d dv)))) (hS : va_S (lA s) s.heap H locs) (next : LN p l e s m below meth c cells slots Q g b d am i n) : W p l e room_1 s m #[Value.ref b] below meth c H locs cells slots Q (F0 m 40 ls [.int (nI 35)]) := by
  refine lv_tableIn (off := 1411) (tgt := 1451) hL.1.1 hL.1.2.1 dl_40 (by decide) (by decide) (by decide) (by decide) ?_
  obtain ⟨r, cs', sm', e1, e2, e3⟩ := st_keep n  hn cs sm hR
  exact ld_keep hL hl hin e1 e2 hcs hP hD hS (fun a' H1 locs1 ha hP hD hS => next cs' sm' a' dv ls H1 locs1 e3 (by rw [ha]; exact hl) hP hD hS)
theorem ltn_36 (hL : LE p c meth s m g b L xs) (hst : l.stackTraces = false) (hl : LV ls b (a 0) (am 0) d i) (hin : LI i L) (hn : n < 512) (hR : Rel n cs sm) (hcs : cells + 25 ≤ 601024 ∧ slots + 6480 ≤ 7293034) (hP : gP g (CSw g a cs ++ (CSp g a cs ++ (Mo_c g am sm ++ Lout g d dv))) H) (hD : va_D (lA s) (CSw g a cs ++ (CSp g a cs ++ (Mo_c g am sm ++ Lout g d dv)))) (hS : va_S (lA s) s.heap H locs) (next : LN p l e s m below meth c cells slots Q g b d am i n) : W p l e room_1 s m #[Value.ref b] below meth c H locs cells slots Q (F0 m 40 ls [.int (nI 36)]) := by
  refine lv_tableIn (off := 1424) (tgt := 1464) hL.1.1 hL.1.2.1 dl_40 (by decide) (by decide) (by decide) (by decide) ?_
  obtain ⟨r, cs', sm', e1, e2, e3⟩ := st_back n  hn cs sm hR
  exact ld_back hL hl hin e1 e2 hcs hP hD hS (fun a' H1 locs1 ha hP hD hS => next cs' sm' a' dv ls H1 locs1 e3 (by rw [ha]; exact hl) hP hD hS)
theorem ltn_37 (hL : LE p c meth s m g b L xs) (hst : l.stackTraces = false) (hl : LV ls b (a 0) (am 0) d i) (hin : LI i L) (hn : n < 512) (hR : Rel n cs sm) (hcs : cells + 25 ≤ 601024 ∧ slots + 6480 ≤ 7293034) (hP : gP g (CSw g a cs ++ (CSp g a cs ++ (Mo_c g am sm ++ Lout g d dv))) H) (hD : va_D (lA s) (CSw g a cs ++ (CSp g a cs ++ (Mo_c g am sm ++ Lout g d dv)))) (hS : va_S (lA s) s.heap H locs) (next : LN p l e s m below meth c cells slots Q g b d am i n) : W p l e room_1 s m #[Value.ref b] below meth c H locs cells slots Q (F0 m 40 ls [.int (nI 37)]) := by
  refine lv_tableIn (off := 1437) (tgt := 1477) hL.1.1 hL.1.2.1 dl_40 (by decide) (by decide) (by decide) (by decide) ?_
  have wd : ∀ {H1 : Heap} {locs1 : List Loc} {F : JFrame}, W p l e room_1 s m #[Value.ref b] below meth c H1 locs1 (cells + 25) (slots + 6480) Q F → W p l e room_1 s m #[Value.ref b] below meth c H1 locs1 (cells + 1) (slots + 6) Q F := fun k => W.widen (Nat.add_le_add_left (Nat.le_of_ble_eq_true rfl) _) (Nat.add_le_add_left (Nat.le_of_ble_eq_true rfl) _) k
  have hcs' : cells + 1 ≤ 601024 ∧ slots + 6 ≤ 7293034 := ⟨Nat.le_trans (Nat.add_le_add_left (Nat.le_of_ble_eq_true rfl) _) hcs.1, Nat.le_trans (Nat.add_le_add_left (Nat.le_of_ble_eq_true rfl) _) hcs.2⟩
  rcases cs with s1 | s1 | ⟨s1, h⟩
  · have hR : RN s1 sm := hR
    exact lo_single_x (w0 := OuN_c g a s1) (po := []) hL hl hin (c_Lsingle_xN l hst g a s1 (sa xs i 1) d dv) (single_N hR _) (th_at _ _) hcs' hP hD hS (fun ls1 H1 locs1 hl hP hD hS => wd (next (csN s1) _ a dv ls1 H1 locs1 (hR.thr 1) hl hP hD hS))
  · obtain ⟨k1, k2, kc, vc, k3⟩ := hR
    rcases single2 hn k3 (sa xs i 1) with ⟨k, e1, e2⟩ | ⟨e1, e2⟩
    · exact lo_single_r (w0 := OuB_c g a .null s1) (po := []) (t' := vp_updL dv (ix 0) k.toInt64) hL hl hin (c_Lsingle_r l g a .null s1 (sa xs i 1) d dv k e1) uL e2 (th_at _ _) hcs' hP hD hS (fun ls1 H1 locs1 hl hP hD hS => wd (next (csB s1) _ a _ ls1 H1 locs1 ⟨k1, (zf_hasImage_thrown _ _).trans k2, kc, vc, k3.thr 0⟩ hl hP hD hS))
    · exact lo_single_x (w0 := OuB_c g a .null s1) (po := []) hL hl hin (c_Lsingle_xB l hst g a .null s1 (sa xs i 1) d dv e1) e2 (th_at _ _) hcs' hP hD hS (fun ls1 H1 locs1 hl hP hD hS => wd (next (csB s1) _ a dv ls1 H1 locs1 ⟨k1, (zf_hasImage_thrown _ _).trans k2, kc, vc, k3.thr 1⟩ hl hP hD hS))
  · obtain ⟨kc, vc, k3, k4⟩ := hR
    rcases single2 hn k3 (sa xs i 1) with ⟨k, e1, e2⟩ | ⟨e1, e2⟩
    · exact lo_single_r (w0 := OuB_c g a (.ref (a 44)) s1) (po := Bk_c g (fun k => a (k + 44)) h) (t' := vp_updL dv (ix 0) k.toInt64) hL hl hin (c_Lsingle_r l g a (.ref (a 44)) s1 (sa xs i 1) d dv k e1) uL e2 (th_at _ _) hcs' hP hD hS (fun ls1 H1 locs1 hl hP hD hS => wd (next (csS s1 h) _ a _ ls1 H1 locs1 ⟨kc, vc, k3.thr 0, k4.ks (KS.thr s1 sm 0)⟩ hl hP hD hS))
    · exact lo_single_x (w0 := OuB_c g a (.ref (a 44)) s1) (po := Bk_c g (fun k => a (k + 44)) h) hL hl hin (c_Lsingle_xB l hst g a (.ref (a 44)) s1 (sa xs i 1) d dv e1) e2 (th_at _ _) hcs' hP hD hS (fun ls1 H1 locs1 hl hP hD hS => wd (next (csS s1 h) _ a dv ls1 H1 locs1 ⟨kc, vc, k3.thr 1, k4.ks (KS.thr s1 sm 1)⟩ hl hP hD hS))
theorem ltn_38 (hL : LE p c meth s m g b L xs) (hst : l.stackTraces = false) (hl : LV ls b (a 0) (am 0) d i) (hin : LI i L) (hn : n < 512) (hR : Rel n cs sm) (hcs : cells + 25 ≤ 601024 ∧ slots + 6480 ≤ 7293034) (hP : gP g (CSw g a cs ++ (CSp g a cs ++ (Mo_c g am sm ++ Lout g d dv))) H) (hD : va_D (lA s) (CSw g a cs ++ (CSp g a cs ++ (Mo_c g am sm ++ Lout g d dv)))) (hS : va_S (lA s) s.heap H locs) (next : LN p l e s m below meth c cells slots Q g b d am i n) : W p l e room_1 s m #[Value.ref b] below meth c H locs cells slots Q (F0 m 40 ls [.int (nI 38)]) := by
  refine lv_tableIn (off := 1493) (tgt := 1533) hL.1.1 hL.1.2.1 dl_40 (by decide) (by decide) (by decide) (by decide) ?_
  obtain ⟨r, cs', sm', e1, e2, e3⟩ := st_size n (sa xs i 1) hn cs sm hR
  exact ld_size hL hl hin e1 e2 hcs hP hD hS (fun a' H1 locs1 ha hP hD hS => next cs' sm' a' dv ls H1 locs1 e3 (by rw [ha]; exact hl) hP hD hS)
theorem ltn_39 (hL : LE p c meth s m g b L xs) (hst : l.stackTraces = false) (hl : LV ls b (a 0) (am 0) d i) (hin : LI i L) (hn : n < 512) (hR : Rel n cs sm) (hcs : cells + 25 ≤ 601024 ∧ slots + 6480 ≤ 7293034) (hP : gP g (CSw g a cs ++ (CSp g a cs ++ (Mo_c g am sm ++ Lout g d dv))) H) (hD : va_D (lA s) (CSw g a cs ++ (CSp g a cs ++ (Mo_c g am sm ++ Lout g d dv)))) (hS : va_S (lA s) s.heap H locs) (next : LN p l e s m below meth c cells slots Q g b d am i n) : W p l e room_1 s m #[Value.ref b] below meth c H locs cells slots Q (F0 m 40 ls [.int (nI 39)]) := by
  refine lv_tableIn (off := 1518) (tgt := 1558) hL.1.1 hL.1.2.1 dl_40 (by decide) (by decide) (by decide) (by decide) ?_
  obtain ⟨r, cs', sm', e1, e2, e3⟩ := st_trouble n  hn cs sm hR
  exact ld_trouble hL hl hin e1 e2 hcs hP hD hS (fun a' H1 locs1 ha hP hD hS => next cs' sm' a' dv ls H1 locs1 e3 (by rw [ha]; exact hl) hP hD hS)
theorem lt_all {j : Nat} (hj : j < 40) (hL : LE p c meth s m g b L xs) (hst : l.stackTraces = false) (hl : LV ls b (a 0) (am 0) d i) (hin : LI i L) (hn : n < 512) (hR : Rel n cs sm) (hcs : cells + 25 ≤ 601024 ∧ slots + 6480 ≤ 7293034) (hP : gP g (CSw g a cs ++ (CSp g a cs ++ (Mo_c g am sm ++ Lout g d dv))) H) (hD : va_D (lA s) (CSw g a cs ++ (CSp g a cs ++ (Mo_c g am sm ++ Lout g d dv)))) (hS : va_S (lA s) s.heap H locs) (next : LN p l e s m below meth c cells slots Q g b d am i n) : W p l e room_1 s m #[Value.ref b] below meth c H locs cells slots Q (F0 m 40 ls [.int (nI j)]) := by
  match j, hj with
  | 0, _ => exact ltn_0 hL hst hl hin hn hR hcs hP hD hS next
  | 1, _ => exact ltn_1 hL hst hl hin hn hR hcs hP hD hS next
  | 2, _ => exact ltn_2 hL hst hl hin hn hR hcs hP hD hS next
  | 3, _ => exact ltn_3 hL hst hl hin hn hR hcs hP hD hS next
  | 4, _ => exact ltn_4 hL hst hl hin hn hR hcs hP hD hS next
  | 5, _ => exact ltn_5 hL hst hl hin hn hR hcs hP hD hS next
  | 6, _ => exact ltn_6 hL hst hl hin hn hR hcs hP hD hS next
  | 7, _ => exact ltn_7 hL hst hl hin hn hR hcs hP hD hS next
  | 8, _ => exact ltn_8 hL hst hl hin hn hR hcs hP hD hS next
  | 9, _ => exact ltn_9 hL hst hl hin hn hR hcs hP hD hS next
  | 10, _ => exact ltn_10 hL hst hl hin hn hR hcs hP hD hS next
  | 11, _ => exact ltn_11 hL hst hl hin hn hR hcs hP hD hS next
  | 12, _ => exact ltn_12 hL hst hl hin hn hR hcs hP hD hS next
  | 13, _ => exact ltn_13 hL hst hl hin hn hR hcs hP hD hS next
  | 14, _ => exact ltn_14 hL hst hl hin hn hR hcs hP hD hS next
  | 15, _ => exact ltn_15 hL hst hl hin hn hR hcs hP hD hS next
  | 16, _ => exact ltn_16 hL hst hl hin hn hR hcs hP hD hS next
  | 17, _ => exact ltn_17 hL hst hl hin hn hR hcs hP hD hS next
  | 18, _ => exact ltn_18 hL hst hl hin hn hR hcs hP hD hS next
  | 19, _ => exact ltn_19 hL hst hl hin hn hR hcs hP hD hS next
  | 20, _ => exact ltn_20 hL hst hl hin hn hR hcs hP hD hS next
  | 21, _ => exact ltn_21 hL hst hl hin hn hR hcs hP hD hS next
  | 22, _ => exact ltn_22 hL hst hl hin hn hR hcs hP hD hS next
  | 23, _ => exact ltn_23 hL hst hl hin hn hR hcs hP hD hS next
  | 24, _ => exact ltn_24 hL hst hl hin hn hR hcs hP hD hS next
  | 25, _ => exact ltn_25 hL hst hl hin hn hR hcs hP hD hS next
  | 26, _ => exact ltn_26 hL hst hl hin hn hR hcs hP hD hS next
  | 27, _ => exact ltn_27 hL hst hl hin hn hR hcs hP hD hS next
  | 28, _ => exact ltn_28 hL hst hl hin hn hR hcs hP hD hS next
  | 29, _ => exact ltn_29 hL hst hl hin hn hR hcs hP hD hS next
  | 30, _ => exact ltn_30 hL hst hl hin hn hR hcs hP hD hS next
  | 31, _ => exact ltn_31 hL hst hl hin hn hR hcs hP hD hS next
  | 32, _ => exact ltn_32 hL hst hl hin hn hR hcs hP hD hS next
  | 33, _ => exact ltn_33 hL hst hl hin hn hR hcs hP hD hS next
  | 34, _ => exact ltn_34 hL hst hl hin hn hR hcs hP hD hS next
  | 35, _ => exact ltn_35 hL hst hl hin hn hR hcs hP hD hS next
  | 36, _ => exact ltn_36 hL hst hl hin hn hR hcs hP hD hS next
  | 37, _ => exact ltn_37 hL hst hl hin hn hR hcs hP hD hS next
  | 38, _ => exact ltn_38 hL hst hl hin hn hR hcs hP hD hS next
  | 39, _ => exact ltn_39 hL hst hl hin hn hR hcs hP hD hS next
  | j + 40, h => exact absurd h (by omega)
end LAWT
