/-! the class's state in the law: without a desk, with one, with one and a shelf -/
abbrev CS : Type := OuNT ⊕ (OuBT ⊕ (OuBT × BkT))
abbrev csN (s : OuNT) : CS := .inl s
abbrev csB (s : OuBT) : CS := .inr (.inl s)
abbrev csS (s : OuBT) (h : BkT) : CS := .inr (.inr (s, h))
def CSw (g : GK) (a : Nat → Nat) : CS → va_W
  | .inl s => OuN_c g a s
  | .inr (.inl s) => OuB_c g a .null s
  | .inr (.inr (s, _)) => OuB_c g a (.ref (a 44)) s
def CSp (g : GK) (a : Nat → Nat) : CS → va_W
  | .inl _ => []
  | .inr (.inl _) => []
  | .inr (.inr (_, h)) => Bk_c g (fun k => a (k + 44)) h
def toS (s : OuBT) (h : BkT) : OuST := (s.1, s.2.1, s.2.2.1, s.2.2.2.1, h, s.2.2.2.2.1, s.2.2.2.2.2.1, s.2.2.2.2.2.2.1, s.2.2.2.2.2.2.2)
def ofS (s : OuST) : CS := csS (s.1, s.2.1, s.2.2.1, s.2.2.2.1, s.2.2.2.2.2.1, s.2.2.2.2.2.2.1, s.2.2.2.2.2.2.2.1, s.2.2.2.2.2.2.2.2) s.2.2.2.2.1
theorem gmp {S R : Type} {o : Option S} {f : S → R} {r : R} (h : o.map f = some r) : ∃ x, o = some x ∧ f x = r := Option.map_eq_some_iff.mp h
section LAWO
variable {p : Program} {l : Launch} {e : Env} {s : State} {m : MethodId} {below : List Frame} {meth : Method} {c : Code} {H : Heap} {locs : List Loc} {cells slots : Nat} {Q : State → Prop} {g : GK} {ls : Array Slot} {b L ax d : Nat} {am : Nat → Nat} {xs : Nat → Int32} {i : Int32}

abbrev fc_feed (cs : CS) (a1 a2 a3 a4 a5 : Int32) : Option (Int32 × CS) := match cs with
  | .inl s => (f_X8_feed_N s a1 a2 a3 a4 a5).map fun q => (q.1, csN q.2)
  | .inr (.inl s) => (f_X8_feed_B s a1 a2 a3 a4 a5).map fun q => (q.1, csB q.2)
  | .inr (.inr (s, h)) => (f_X8_feed_B s a1 a2 a3 a4 a5).map fun q => (q.1, csS q.2 h)
set_option maxHeartbeats 1000000 in
theorem ld_feed {a : Nat → Nat} {cs cs' : CS} {r : Int32} {sm sm' : MoT} {dv : Nat → Int64} (hL : LE p c meth s m g b L xs) (hl : LV ls b (a 0) (am 0) d i) (hin : LI i L)
    (hfc : fc_feed cs (sa xs i 1) (sa xs i 2) (sa xs i 3) (sa xs i 4) (sa xs i 5) = some (r, cs')) (hfm : f_X9_feed sm (sa xs i 1) (sa xs i 2) (sa xs i 3) (sa xs i 4) (sa xs i 5) = some (r, sm')) (hcs : cells + 25 ≤ 601024 ∧ slots + 6480 ≤ 7293034)
    (hP : gP g (CSw g a cs ++ (CSp g a cs ++ (Mo_c g am sm ++ Lout g d dv))) H) (hD : va_D (lA s) (CSw g a cs ++ (CSp g a cs ++ (Mo_c g am sm ++ Lout g d dv)))) (hS : va_S (lA s) s.heap H locs)
    (next : ∀ (a' : Nat → Nat) (H1 : Heap) (locs1 : List Loc), a' 0 = a 0 → gP g (CSw g a' cs' ++ (CSp g a' cs' ++ (Mo_c g am sm' ++ Lout g d dv))) H1 → va_D (lA s) (CSw g a' cs' ++ (CSp g a' cs' ++ (Mo_c g am sm' ++ Lout g d dv))) → va_S (lA s) s.heap H1 locs1 → W p l e room_1 s m #[Value.ref b] below meth c H1 locs1 (cells + 25) (slots + 6480) Q (F0 m 1571 ls [])) :
    W p l e room_1 s m #[Value.ref b] below meth c H locs cells slots Q (F0 m 216 ls []) := by
  rcases cs with s1 | s1 | ⟨s1, h⟩
  · obtain ⟨q, hq, he⟩ := gmp hfc
    cases he
    exact lo_feed (X := Unit) (po := []) (mc := 0) (ms := 0) hL hl hin (c_X8_feed_N l g a s1 (sa xs i 1) (sa xs i 2) (sa xs i 3) (sa xs i 4) (sa xs i 5) _ hq) ⟨rfl, rfl⟩ ⟨Nat.le_of_ble_eq_true rfl, Nat.le_of_ble_eq_true rfl⟩ rfl hfm ⟨Nat.le_trans (Nat.add_le_add_left (Nat.le_of_ble_eq_true rfl) _) hcs.1, Nat.le_trans (Nat.add_le_add_left (Nat.le_of_ble_eq_true rfl) _) hcs.2⟩ hP hD hS (fun x H1 locs1 hP hD hS => W.widen (Nat.add_le_add_left (Nat.le_of_ble_eq_true rfl) _) (Nat.add_le_add_left (Nat.le_of_ble_eq_true rfl) _) (next a H1 locs1 rfl hP hD hS))
  · obtain ⟨q, hq, he⟩ := gmp hfc
    cases he
    exact lo_feed (X := Unit) (po := []) (mc := 0) (ms := 0) hL hl hin (c_X8_feed_B l g a .null s1 (sa xs i 1) (sa xs i 2) (sa xs i 3) (sa xs i 4) (sa xs i 5) _ hq) ⟨rfl, rfl⟩ ⟨Nat.le_of_ble_eq_true rfl, Nat.le_of_ble_eq_true rfl⟩ rfl hfm ⟨Nat.le_trans (Nat.add_le_add_left (Nat.le_of_ble_eq_true rfl) _) hcs.1, Nat.le_trans (Nat.add_le_add_left (Nat.le_of_ble_eq_true rfl) _) hcs.2⟩ hP hD hS (fun x H1 locs1 hP hD hS => W.widen (Nat.add_le_add_left (Nat.le_of_ble_eq_true rfl) _) (Nat.add_le_add_left (Nat.le_of_ble_eq_true rfl) _) (next a H1 locs1 rfl hP hD hS))
  · obtain ⟨q, hq, he⟩ := gmp hfc
    cases he
    exact lo_feed (X := Unit) (po := (Bk_c g (fun k => a (k + 44)) h)) (mc := 0) (ms := 0) hL hl hin (c_X8_feed_B l g a (.ref (a 44)) s1 (sa xs i 1) (sa xs i 2) (sa xs i 3) (sa xs i 4) (sa xs i 5) _ hq) ⟨rfl, rfl⟩ ⟨Nat.le_of_ble_eq_true rfl, Nat.le_of_ble_eq_true rfl⟩ rfl hfm ⟨Nat.le_trans (Nat.add_le_add_left (Nat.le_of_ble_eq_true rfl) _) hcs.1, Nat.le_trans (Nat.add_le_add_left (Nat.le_of_ble_eq_true rfl) _) hcs.2⟩ hP hD hS (fun x H1 locs1 hP hD hS => W.widen (Nat.add_le_add_left (Nat.le_of_ble_eq_true rfl) _) (Nat.add_le_add_left (Nat.le_of_ble_eq_true rfl) _) (next a H1 locs1 rfl hP hD hS))
abbrev fc_desk (cs : CS) (a1 : Int32) : Option (Int32 × CS) := match cs with
  | .inl s => match f_X8_desk_N s a1 with
    | some q => some (q.1, csN q.2)
    | none => (f_X8_desk_N1 s a1).map fun q => (q.1, csB q.2)
  | .inr (.inl s) => (f_X8_desk_B s a1).map fun q => (q.1, csB q.2)
  | .inr (.inr (s, h)) => (f_X8_desk_B s a1).map fun q => (q.1, csS q.2 h)
set_option maxHeartbeats 1000000 in
theorem ld_desk {a : Nat → Nat} {cs cs' : CS} {r : Int32} {sm sm' : MoT} {dv : Nat → Int64} (hL : LE p c meth s m g b L xs) (hl : LV ls b (a 0) (am 0) d i) (hin : LI i L)
    (hfc : fc_desk cs (sa xs i 1) = some (r, cs')) (hfm : f_X9_desk sm (sa xs i 1) = some (r, sm')) (hcs : cells + 25 ≤ 601024 ∧ slots + 6480 ≤ 7293034)
    (hP : gP g (CSw g a cs ++ (CSp g a cs ++ (Mo_c g am sm ++ Lout g d dv))) H) (hD : va_D (lA s) (CSw g a cs ++ (CSp g a cs ++ (Mo_c g am sm ++ Lout g d dv)))) (hS : va_S (lA s) s.heap H locs)
    (next : ∀ (a' : Nat → Nat) (H1 : Heap) (locs1 : List Loc), a' 0 = a 0 → gP g (CSw g a' cs' ++ (CSp g a' cs' ++ (Mo_c g am sm' ++ Lout g d dv))) H1 → va_D (lA s) (CSw g a' cs' ++ (CSp g a' cs' ++ (Mo_c g am sm' ++ Lout g d dv))) → va_S (lA s) s.heap H1 locs1 → W p l e room_1 s m #[Value.ref b] below meth c H1 locs1 (cells + 25) (slots + 6480) Q (F0 m 1571 ls [])) :
    W p l e room_1 s m #[Value.ref b] below meth c H locs cells slots Q (F0 m 289 ls []) := by
  rcases cs with s1 | s1 | ⟨s1, h⟩
  · simp only [fc_desk] at hfc
    split at hfc
    · rename_i q hq
      cases hfc
      exact lo_desk (X := Unit) (po := []) (mc := 0) (ms := 0) hL hl hin (c_X8_desk_N l g a s1 (sa xs i 1) _ hq) ⟨rfl, rfl⟩ ⟨Nat.le_of_ble_eq_true rfl, Nat.le_of_ble_eq_true rfl⟩ rfl hfm ⟨Nat.le_trans (Nat.add_le_add_left (Nat.le_of_ble_eq_true rfl) _) hcs.1, Nat.le_trans (Nat.add_le_add_left (Nat.le_of_ble_eq_true rfl) _) hcs.2⟩ hP hD hS (fun x H1 locs1 hP hD hS => W.widen (Nat.add_le_add_left (Nat.le_of_ble_eq_true rfl) _) (Nat.add_le_add_left (Nat.le_of_ble_eq_true rfl) _) (next a H1 locs1 rfl hP hD hS))
    · obtain ⟨q, hq, he⟩ := gmp hfc
      cases he
      exact lo_desk (X := Nat → Nat) (po := []) (mc := 25) (ms := 6480) hL hl hin (c_X8_desk_N1 l g a s1 (sa xs i 1) _ hq) ⟨rfl, rfl⟩ ⟨Nat.le_of_ble_eq_true rfl, Nat.le_of_ble_eq_true rfl⟩ rfl hfm ⟨Nat.le_trans (Nat.add_le_add_left (Nat.le_of_ble_eq_true rfl) _) hcs.1, Nat.le_trans (Nat.add_le_add_left (Nat.le_of_ble_eq_true rfl) _) hcs.2⟩ hP hD hS (fun x H1 locs1 hP hD hS => W.widen (Nat.add_le_add_left (Nat.le_of_ble_eq_true rfl) _) (Nat.add_le_add_left (Nat.le_of_ble_eq_true rfl) _) (next (jo 19 a x) H1 locs1 rfl hP hD hS))
  · obtain ⟨q, hq, he⟩ := gmp hfc
    cases he
    exact lo_desk (X := Unit) (po := []) (mc := 0) (ms := 0) hL hl hin (c_X8_desk_B l g a .null s1 (sa xs i 1) _ hq) ⟨rfl, rfl⟩ ⟨Nat.le_of_ble_eq_true rfl, Nat.le_of_ble_eq_true rfl⟩ rfl hfm ⟨Nat.le_trans (Nat.add_le_add_left (Nat.le_of_ble_eq_true rfl) _) hcs.1, Nat.le_trans (Nat.add_le_add_left (Nat.le_of_ble_eq_true rfl) _) hcs.2⟩ hP hD hS (fun x H1 locs1 hP hD hS => W.widen (Nat.add_le_add_left (Nat.le_of_ble_eq_true rfl) _) (Nat.add_le_add_left (Nat.le_of_ble_eq_true rfl) _) (next a H1 locs1 rfl hP hD hS))
  · obtain ⟨q, hq, he⟩ := gmp hfc
    cases he
    exact lo_desk (X := Unit) (po := (Bk_c g (fun k => a (k + 44)) h)) (mc := 0) (ms := 0) hL hl hin (c_X8_desk_B l g a (.ref (a 44)) s1 (sa xs i 1) _ hq) ⟨rfl, rfl⟩ ⟨Nat.le_of_ble_eq_true rfl, Nat.le_of_ble_eq_true rfl⟩ rfl hfm ⟨Nat.le_trans (Nat.add_le_add_left (Nat.le_of_ble_eq_true rfl) _) hcs.1, Nat.le_trans (Nat.add_le_add_left (Nat.le_of_ble_eq_true rfl) _) hcs.2⟩ hP hD hS (fun x H1 locs1 hP hD hS => W.widen (Nat.add_le_add_left (Nat.le_of_ble_eq_true rfl) _) (Nat.add_le_add_left (Nat.le_of_ble_eq_true rfl) _) (next a H1 locs1 rfl hP hD hS))
abbrev fc_more (cs : CS) (a1 : Int32) : Option (Int32 × CS) := match cs with
  | .inl s => (f_X8_more_N s a1).map fun q => (q.1, csN q.2)
  | .inr (.inl s) => (f_X8_more_B s a1).map fun q => (q.1, csB q.2)
  | .inr (.inr (s, h)) => (f_X8_more_B s a1).map fun q => (q.1, csS q.2 h)
set_option maxHeartbeats 1000000 in
theorem ld_more {a : Nat → Nat} {cs cs' : CS} {r : Int32} {sm sm' : MoT} {dv : Nat → Int64} (hL : LE p c meth s m g b L xs) (hl : LV ls b (a 0) (am 0) d i) (hin : LI i L)
    (hfc : fc_more cs (sa xs i 1) = some (r, cs')) (hfm : f_X9_more_ sm (sa xs i 1) = some (r, sm')) (hcs : cells + 25 ≤ 601024 ∧ slots + 6480 ≤ 7293034)
    (hP : gP g (CSw g a cs ++ (CSp g a cs ++ (Mo_c g am sm ++ Lout g d dv))) H) (hD : va_D (lA s) (CSw g a cs ++ (CSp g a cs ++ (Mo_c g am sm ++ Lout g d dv)))) (hS : va_S (lA s) s.heap H locs)
    (next : ∀ (a' : Nat → Nat) (H1 : Heap) (locs1 : List Loc), a' 0 = a 0 → gP g (CSw g a' cs' ++ (CSp g a' cs' ++ (Mo_c g am sm' ++ Lout g d dv))) H1 → va_D (lA s) (CSw g a' cs' ++ (CSp g a' cs' ++ (Mo_c g am sm' ++ Lout g d dv))) → va_S (lA s) s.heap H1 locs1 → W p l e room_1 s m #[Value.ref b] below meth c H1 locs1 (cells + 25) (slots + 6480) Q (F0 m 1571 ls [])) :
    W p l e room_1 s m #[Value.ref b] below meth c H locs cells slots Q (F0 m 314 ls []) := by
  rcases cs with s1 | s1 | ⟨s1, h⟩
  · obtain ⟨q, hq, he⟩ := gmp hfc
    cases he
    exact lo_more (X := Unit) (po := []) (mc := 0) (ms := 0) hL hl hin (c_X8_more_N l g a s1 (sa xs i 1) _ hq) ⟨rfl, rfl⟩ ⟨Nat.le_of_ble_eq_true rfl, Nat.le_of_ble_eq_true rfl⟩ rfl hfm ⟨Nat.le_trans (Nat.add_le_add_left (Nat.le_of_ble_eq_true rfl) _) hcs.1, Nat.le_trans (Nat.add_le_add_left (Nat.le_of_ble_eq_true rfl) _) hcs.2⟩ hP hD hS (fun x H1 locs1 hP hD hS => W.widen (Nat.add_le_add_left (Nat.le_of_ble_eq_true rfl) _) (Nat.add_le_add_left (Nat.le_of_ble_eq_true rfl) _) (next a H1 locs1 rfl hP hD hS))
  · obtain ⟨q, hq, he⟩ := gmp hfc
    cases he
    exact lo_more (X := Unit) (po := []) (mc := 0) (ms := 0) hL hl hin (c_X8_more_B l g a .null s1 (sa xs i 1) _ hq) ⟨rfl, rfl⟩ ⟨Nat.le_of_ble_eq_true rfl, Nat.le_of_ble_eq_true rfl⟩ rfl hfm ⟨Nat.le_trans (Nat.add_le_add_left (Nat.le_of_ble_eq_true rfl) _) hcs.1, Nat.le_trans (Nat.add_le_add_left (Nat.le_of_ble_eq_true rfl) _) hcs.2⟩ hP hD hS (fun x H1 locs1 hP hD hS => W.widen (Nat.add_le_add_left (Nat.le_of_ble_eq_true rfl) _) (Nat.add_le_add_left (Nat.le_of_ble_eq_true rfl) _) (next a H1 locs1 rfl hP hD hS))
  · obtain ⟨q, hq, he⟩ := gmp hfc
    cases he
    exact lo_more (X := Unit) (po := (Bk_c g (fun k => a (k + 44)) h)) (mc := 0) (ms := 0) hL hl hin (c_X8_more_B l g a (.ref (a 44)) s1 (sa xs i 1) _ hq) ⟨rfl, rfl⟩ ⟨Nat.le_of_ble_eq_true rfl, Nat.le_of_ble_eq_true rfl⟩ rfl hfm ⟨Nat.le_trans (Nat.add_le_add_left (Nat.le_of_ble_eq_true rfl) _) hcs.1, Nat.le_trans (Nat.add_le_add_left (Nat.le_of_ble_eq_true rfl) _) hcs.2⟩ hP hD hS (fun x H1 locs1 hP hD hS => W.widen (Nat.add_le_add_left (Nat.le_of_ble_eq_true rfl) _) (Nat.add_le_add_left (Nat.le_of_ble_eq_true rfl) _) (next a H1 locs1 rfl hP hD hS))
abbrev fc_fault (cs : CS) : Option (Int32 × CS) := match cs with
  | .inl s => (f_X8_fault_N s).map fun q => (q, csN s)
  | .inr (.inl s) => (f_X8_fault_B s).map fun q => (q, csB s)
  | .inr (.inr (s, h)) => (f_X8_fault_B s).map fun q => (q, csS s h)
set_option maxHeartbeats 1000000 in
theorem ld_fault {a : Nat → Nat} {cs cs' : CS} {r : Int32} {sm sm' : MoT} {dv : Nat → Int64} (hL : LE p c meth s m g b L xs) (hl : LV ls b (a 0) (am 0) d i) (hin : LI i L)
    (hfc : fc_fault cs = some (r, cs')) (hfm : f_X9_fault sm = some (r, sm')) (hcs : cells + 25 ≤ 601024 ∧ slots + 6480 ≤ 7293034)
    (hP : gP g (CSw g a cs ++ (CSp g a cs ++ (Mo_c g am sm ++ Lout g d dv))) H) (hD : va_D (lA s) (CSw g a cs ++ (CSp g a cs ++ (Mo_c g am sm ++ Lout g d dv)))) (hS : va_S (lA s) s.heap H locs)
    (next : ∀ (a' : Nat → Nat) (H1 : Heap) (locs1 : List Loc), a' 0 = a 0 → gP g (CSw g a' cs' ++ (CSp g a' cs' ++ (Mo_c g am sm' ++ Lout g d dv))) H1 → va_D (lA s) (CSw g a' cs' ++ (CSp g a' cs' ++ (Mo_c g am sm' ++ Lout g d dv))) → va_S (lA s) s.heap H1 locs1 → W p l e room_1 s m #[Value.ref b] below meth c H1 locs1 (cells + 25) (slots + 6480) Q (F0 m 1571 ls [])) :
    W p l e room_1 s m #[Value.ref b] below meth c H locs cells slots Q (F0 m 339 ls []) := by
  rcases cs with s1 | s1 | ⟨s1, h⟩
  · obtain ⟨q, hq, he⟩ := gmp hfc
    cases he
    exact lo_fault (X := Unit) (po := []) (mc := 0) (ms := 0) hL hl hin (gR_gM (c_X8_fault_N l g a s1 _ hq)) ⟨rfl, rfl⟩ ⟨Nat.le_of_ble_eq_true rfl, Nat.le_of_ble_eq_true rfl⟩ rfl hfm ⟨Nat.le_trans (Nat.add_le_add_left (Nat.le_of_ble_eq_true rfl) _) hcs.1, Nat.le_trans (Nat.add_le_add_left (Nat.le_of_ble_eq_true rfl) _) hcs.2⟩ hP hD hS (fun x H1 locs1 hP hD hS => W.widen (Nat.add_le_add_left (Nat.le_of_ble_eq_true rfl) _) (Nat.add_le_add_left (Nat.le_of_ble_eq_true rfl) _) (next a H1 locs1 rfl hP hD hS))
  · obtain ⟨q, hq, he⟩ := gmp hfc
    cases he
    exact lo_fault (X := Unit) (po := []) (mc := 0) (ms := 0) hL hl hin (gR_gM (c_X8_fault_B l g a .null s1 _ hq)) ⟨rfl, rfl⟩ ⟨Nat.le_of_ble_eq_true rfl, Nat.le_of_ble_eq_true rfl⟩ rfl hfm ⟨Nat.le_trans (Nat.add_le_add_left (Nat.le_of_ble_eq_true rfl) _) hcs.1, Nat.le_trans (Nat.add_le_add_left (Nat.le_of_ble_eq_true rfl) _) hcs.2⟩ hP hD hS (fun x H1 locs1 hP hD hS => W.widen (Nat.add_le_add_left (Nat.le_of_ble_eq_true rfl) _) (Nat.add_le_add_left (Nat.le_of_ble_eq_true rfl) _) (next a H1 locs1 rfl hP hD hS))
  · obtain ⟨q, hq, he⟩ := gmp hfc
    cases he
    exact lo_fault (X := Unit) (po := (Bk_c g (fun k => a (k + 44)) h)) (mc := 0) (ms := 0) hL hl hin (gR_gM (c_X8_fault_B l g a (.ref (a 44)) s1 _ hq)) ⟨rfl, rfl⟩ ⟨Nat.le_of_ble_eq_true rfl, Nat.le_of_ble_eq_true rfl⟩ rfl hfm ⟨Nat.le_trans (Nat.add_le_add_left (Nat.le_of_ble_eq_true rfl) _) hcs.1, Nat.le_trans (Nat.add_le_add_left (Nat.le_of_ble_eq_true rfl) _) hcs.2⟩ hP hD hS (fun x H1 locs1 hP hD hS => W.widen (Nat.add_le_add_left (Nat.le_of_ble_eq_true rfl) _) (Nat.add_le_add_left (Nat.le_of_ble_eq_true rfl) _) (next a H1 locs1 rfl hP hD hS))
abbrev fc_where (cs : CS) : Option (Int32 × CS) := match cs with
  | .inl s => (f_X8_where_N s).map fun q => (q, csN s)
  | .inr (.inl s) => (f_X8_where_B s).map fun q => (q, csB s)
  | .inr (.inr (s, h)) => (f_X8_where_B s).map fun q => (q, csS s h)
set_option maxHeartbeats 1000000 in
theorem ld_where {a : Nat → Nat} {cs cs' : CS} {r : Int32} {sm sm' : MoT} {dv : Nat → Int64} (hL : LE p c meth s m g b L xs) (hl : LV ls b (a 0) (am 0) d i) (hin : LI i L)
    (hfc : fc_where cs = some (r, cs')) (hfm : f_X9_where sm = some (r, sm')) (hcs : cells + 25 ≤ 601024 ∧ slots + 6480 ≤ 7293034)
    (hP : gP g (CSw g a cs ++ (CSp g a cs ++ (Mo_c g am sm ++ Lout g d dv))) H) (hD : va_D (lA s) (CSw g a cs ++ (CSp g a cs ++ (Mo_c g am sm ++ Lout g d dv)))) (hS : va_S (lA s) s.heap H locs)
    (next : ∀ (a' : Nat → Nat) (H1 : Heap) (locs1 : List Loc), a' 0 = a 0 → gP g (CSw g a' cs' ++ (CSp g a' cs' ++ (Mo_c g am sm' ++ Lout g d dv))) H1 → va_D (lA s) (CSw g a' cs' ++ (CSp g a' cs' ++ (Mo_c g am sm' ++ Lout g d dv))) → va_S (lA s) s.heap H1 locs1 → W p l e room_1 s m #[Value.ref b] below meth c H1 locs1 (cells + 25) (slots + 6480) Q (F0 m 1571 ls [])) :
    W p l e room_1 s m #[Value.ref b] below meth c H locs cells slots Q (F0 m 352 ls []) := by
  rcases cs with s1 | s1 | ⟨s1, h⟩
  · obtain ⟨q, hq, he⟩ := gmp hfc
    cases he
    exact lo_where (X := Unit) (po := []) (mc := 0) (ms := 0) hL hl hin (gR_gM (c_X8_where_N l g a s1 _ hq)) ⟨rfl, rfl⟩ ⟨Nat.le_of_ble_eq_true rfl, Nat.le_of_ble_eq_true rfl⟩ rfl hfm ⟨Nat.le_trans (Nat.add_le_add_left (Nat.le_of_ble_eq_true rfl) _) hcs.1, Nat.le_trans (Nat.add_le_add_left (Nat.le_of_ble_eq_true rfl) _) hcs.2⟩ hP hD hS (fun x H1 locs1 hP hD hS => W.widen (Nat.add_le_add_left (Nat.le_of_ble_eq_true rfl) _) (Nat.add_le_add_left (Nat.le_of_ble_eq_true rfl) _) (next a H1 locs1 rfl hP hD hS))
  · obtain ⟨q, hq, he⟩ := gmp hfc
    cases he
    exact lo_where (X := Unit) (po := []) (mc := 0) (ms := 0) hL hl hin (gR_gM (c_X8_where_B l g a .null s1 _ hq)) ⟨rfl, rfl⟩ ⟨Nat.le_of_ble_eq_true rfl, Nat.le_of_ble_eq_true rfl⟩ rfl hfm ⟨Nat.le_trans (Nat.add_le_add_left (Nat.le_of_ble_eq_true rfl) _) hcs.1, Nat.le_trans (Nat.add_le_add_left (Nat.le_of_ble_eq_true rfl) _) hcs.2⟩ hP hD hS (fun x H1 locs1 hP hD hS => W.widen (Nat.add_le_add_left (Nat.le_of_ble_eq_true rfl) _) (Nat.add_le_add_left (Nat.le_of_ble_eq_true rfl) _) (next a H1 locs1 rfl hP hD hS))
  · obtain ⟨q, hq, he⟩ := gmp hfc
    cases he
    exact lo_where (X := Unit) (po := (Bk_c g (fun k => a (k + 44)) h)) (mc := 0) (ms := 0) hL hl hin (gR_gM (c_X8_where_B l g a (.ref (a 44)) s1 _ hq)) ⟨rfl, rfl⟩ ⟨Nat.le_of_ble_eq_true rfl, Nat.le_of_ble_eq_true rfl⟩ rfl hfm ⟨Nat.le_trans (Nat.add_le_add_left (Nat.le_of_ble_eq_true rfl) _) hcs.1, Nat.le_trans (Nat.add_le_add_left (Nat.le_of_ble_eq_true rfl) _) hcs.2⟩ hP hD hS (fun x H1 locs1 hP hD hS => W.widen (Nat.add_le_add_left (Nat.le_of_ble_eq_true rfl) _) (Nat.add_le_add_left (Nat.le_of_ble_eq_true rfl) _) (next a H1 locs1 rfl hP hD hS))
abbrev fc_about (cs : CS) (a1 : Int32) : Option (Int32 × CS) := match cs with
  | .inl s => (f_X8_about_N s a1).map fun q => (q.1, csN q.2)
  | .inr (.inl s) => (f_X8_about_B s a1).map fun q => (q.1, csB q.2)
  | .inr (.inr (s, h)) => (f_X8_about_B s a1).map fun q => (q.1, csS q.2 h)
set_option maxHeartbeats 1000000 in
theorem ld_about {a : Nat → Nat} {cs cs' : CS} {r : Int32} {sm sm' : MoT} {dv : Nat → Int64} (hL : LE p c meth s m g b L xs) (hl : LV ls b (a 0) (am 0) d i) (hin : LI i L)
    (hfc : fc_about cs (sa xs i 1) = some (r, cs')) (hfm : f_X9_about sm (sa xs i 1) = some (r, sm')) (hcs : cells + 25 ≤ 601024 ∧ slots + 6480 ≤ 7293034)
    (hP : gP g (CSw g a cs ++ (CSp g a cs ++ (Mo_c g am sm ++ Lout g d dv))) H) (hD : va_D (lA s) (CSw g a cs ++ (CSp g a cs ++ (Mo_c g am sm ++ Lout g d dv)))) (hS : va_S (lA s) s.heap H locs)
    (next : ∀ (a' : Nat → Nat) (H1 : Heap) (locs1 : List Loc), a' 0 = a 0 → gP g (CSw g a' cs' ++ (CSp g a' cs' ++ (Mo_c g am sm' ++ Lout g d dv))) H1 → va_D (lA s) (CSw g a' cs' ++ (CSp g a' cs' ++ (Mo_c g am sm' ++ Lout g d dv))) → va_S (lA s) s.heap H1 locs1 → W p l e room_1 s m #[Value.ref b] below meth c H1 locs1 (cells + 25) (slots + 6480) Q (F0 m 1571 ls [])) :
    W p l e room_1 s m #[Value.ref b] below meth c H locs cells slots Q (F0 m 365 ls []) := by
  rcases cs with s1 | s1 | ⟨s1, h⟩
  · obtain ⟨q, hq, he⟩ := gmp hfc
    cases he
    exact lo_about (X := Unit) (po := []) (mc := 0) (ms := 0) hL hl hin (c_X8_about_N l g a s1 (sa xs i 1) _ hq) ⟨rfl, rfl⟩ ⟨Nat.le_of_ble_eq_true rfl, Nat.le_of_ble_eq_true rfl⟩ rfl hfm ⟨Nat.le_trans (Nat.add_le_add_left (Nat.le_of_ble_eq_true rfl) _) hcs.1, Nat.le_trans (Nat.add_le_add_left (Nat.le_of_ble_eq_true rfl) _) hcs.2⟩ hP hD hS (fun x H1 locs1 hP hD hS => W.widen (Nat.add_le_add_left (Nat.le_of_ble_eq_true rfl) _) (Nat.add_le_add_left (Nat.le_of_ble_eq_true rfl) _) (next a H1 locs1 rfl hP hD hS))
  · obtain ⟨q, hq, he⟩ := gmp hfc
    cases he
    exact lo_about (X := Unit) (po := []) (mc := 0) (ms := 0) hL hl hin (c_X8_about_B l g a .null s1 (sa xs i 1) _ hq) ⟨rfl, rfl⟩ ⟨Nat.le_of_ble_eq_true rfl, Nat.le_of_ble_eq_true rfl⟩ rfl hfm ⟨Nat.le_trans (Nat.add_le_add_left (Nat.le_of_ble_eq_true rfl) _) hcs.1, Nat.le_trans (Nat.add_le_add_left (Nat.le_of_ble_eq_true rfl) _) hcs.2⟩ hP hD hS (fun x H1 locs1 hP hD hS => W.widen (Nat.add_le_add_left (Nat.le_of_ble_eq_true rfl) _) (Nat.add_le_add_left (Nat.le_of_ble_eq_true rfl) _) (next a H1 locs1 rfl hP hD hS))
  · obtain ⟨q, hq, he⟩ := gmp hfc
    cases he
    exact lo_about (X := Unit) (po := (Bk_c g (fun k => a (k + 44)) h)) (mc := 0) (ms := 0) hL hl hin (c_X8_about_B l g a (.ref (a 44)) s1 (sa xs i 1) _ hq) ⟨rfl, rfl⟩ ⟨Nat.le_of_ble_eq_true rfl, Nat.le_of_ble_eq_true rfl⟩ rfl hfm ⟨Nat.le_trans (Nat.add_le_add_left (Nat.le_of_ble_eq_true rfl) _) hcs.1, Nat.le_trans (Nat.add_le_add_left (Nat.le_of_ble_eq_true rfl) _) hcs.2⟩ hP hD hS (fun x H1 locs1 hP hD hS => W.widen (Nat.add_le_add_left (Nat.le_of_ble_eq_true rfl) _) (Nat.add_le_add_left (Nat.le_of_ble_eq_true rfl) _) (next a H1 locs1 rfl hP hD hS))
abbrev fc_letter (cs : CS) (a1 a2 a3 : Int32) : Option (Int32 × CS) := match cs with
  | .inl s => (f_X8_letter_N s a1 a2 a3).map fun q => (q.1, csN q.2)
  | .inr (.inl s) => (f_X8_letter_B s a1 a2 a3).map fun q => (q.1, csB q.2)
  | .inr (.inr (s, h)) => (f_X8_letter_B s a1 a2 a3).map fun q => (q.1, csS q.2 h)
set_option maxHeartbeats 1000000 in
theorem ld_letter {a : Nat → Nat} {cs cs' : CS} {r : Int32} {sm sm' : MoT} {dv : Nat → Int64} (hL : LE p c meth s m g b L xs) (hl : LV ls b (a 0) (am 0) d i) (hin : LI i L)
    (hfc : fc_letter cs (sa xs i 1) (sa xs i 2) (sa xs i 3) = some (r, cs')) (hfm : f_X9_letter sm (sa xs i 1) (sa xs i 2) (sa xs i 3) = some (r, sm')) (hcs : cells + 25 ≤ 601024 ∧ slots + 6480 ≤ 7293034)
    (hP : gP g (CSw g a cs ++ (CSp g a cs ++ (Mo_c g am sm ++ Lout g d dv))) H) (hD : va_D (lA s) (CSw g a cs ++ (CSp g a cs ++ (Mo_c g am sm ++ Lout g d dv)))) (hS : va_S (lA s) s.heap H locs)
    (next : ∀ (a' : Nat → Nat) (H1 : Heap) (locs1 : List Loc), a' 0 = a 0 → gP g (CSw g a' cs' ++ (CSp g a' cs' ++ (Mo_c g am sm' ++ Lout g d dv))) H1 → va_D (lA s) (CSw g a' cs' ++ (CSp g a' cs' ++ (Mo_c g am sm' ++ Lout g d dv))) → va_S (lA s) s.heap H1 locs1 → W p l e room_1 s m #[Value.ref b] below meth c H1 locs1 (cells + 25) (slots + 6480) Q (F0 m 1571 ls [])) :
    W p l e room_1 s m #[Value.ref b] below meth c H locs cells slots Q (F0 m 390 ls []) := by
  rcases cs with s1 | s1 | ⟨s1, h⟩
  · obtain ⟨q, hq, he⟩ := gmp hfc
    cases he
    exact lo_letter (X := Unit) (po := []) (mc := 0) (ms := 0) hL hl hin (c_X8_letter_N l g a s1 (sa xs i 1) (sa xs i 2) (sa xs i 3) _ hq) ⟨rfl, rfl⟩ ⟨Nat.le_of_ble_eq_true rfl, Nat.le_of_ble_eq_true rfl⟩ rfl hfm ⟨Nat.le_trans (Nat.add_le_add_left (Nat.le_of_ble_eq_true rfl) _) hcs.1, Nat.le_trans (Nat.add_le_add_left (Nat.le_of_ble_eq_true rfl) _) hcs.2⟩ hP hD hS (fun x H1 locs1 hP hD hS => W.widen (Nat.add_le_add_left (Nat.le_of_ble_eq_true rfl) _) (Nat.add_le_add_left (Nat.le_of_ble_eq_true rfl) _) (next a H1 locs1 rfl hP hD hS))
  · obtain ⟨q, hq, he⟩ := gmp hfc
    cases he
    exact lo_letter (X := Unit) (po := []) (mc := 0) (ms := 0) hL hl hin (c_X8_letter_B l g a .null s1 (sa xs i 1) (sa xs i 2) (sa xs i 3) _ hq) ⟨rfl, rfl⟩ ⟨Nat.le_of_ble_eq_true rfl, Nat.le_of_ble_eq_true rfl⟩ rfl hfm ⟨Nat.le_trans (Nat.add_le_add_left (Nat.le_of_ble_eq_true rfl) _) hcs.1, Nat.le_trans (Nat.add_le_add_left (Nat.le_of_ble_eq_true rfl) _) hcs.2⟩ hP hD hS (fun x H1 locs1 hP hD hS => W.widen (Nat.add_le_add_left (Nat.le_of_ble_eq_true rfl) _) (Nat.add_le_add_left (Nat.le_of_ble_eq_true rfl) _) (next a H1 locs1 rfl hP hD hS))
  · obtain ⟨q, hq, he⟩ := gmp hfc
    cases he
    exact lo_letter (X := Unit) (po := (Bk_c g (fun k => a (k + 44)) h)) (mc := 0) (ms := 0) hL hl hin (c_X8_letter_B l g a (.ref (a 44)) s1 (sa xs i 1) (sa xs i 2) (sa xs i 3) _ hq) ⟨rfl, rfl⟩ ⟨Nat.le_of_ble_eq_true rfl, Nat.le_of_ble_eq_true rfl⟩ rfl hfm ⟨Nat.le_trans (Nat.add_le_add_left (Nat.le_of_ble_eq_true rfl) _) hcs.1, Nat.le_trans (Nat.add_le_add_left (Nat.le_of_ble_eq_true rfl) _) hcs.2⟩ hP hD hS (fun x H1 locs1 hP hD hS => W.widen (Nat.add_le_add_left (Nat.le_of_ble_eq_true rfl) _) (Nat.add_le_add_left (Nat.le_of_ble_eq_true rfl) _) (next a H1 locs1 rfl hP hD hS))
abbrev fc_net (cs : CS) (a1 a2 a3 : Int32) : Option (Int32 × CS) := match cs with
  | .inl s => (f_X8_net_N s a1 a2 a3).map fun q => (q.1, csN q.2)
  | .inr (.inl s) => (f_X8_net_B s a1 a2 a3).map fun q => (q.1, csB q.2)
  | .inr (.inr (s, h)) => (f_X8_net_B s a1 a2 a3).map fun q => (q.1, csS q.2 h)
set_option maxHeartbeats 1000000 in
theorem ld_net {a : Nat → Nat} {cs cs' : CS} {r : Int32} {sm sm' : MoT} {dv : Nat → Int64} (hL : LE p c meth s m g b L xs) (hl : LV ls b (a 0) (am 0) d i) (hin : LI i L)
    (hfc : fc_net cs (sa xs i 1) (sa xs i 2) (sa xs i 3) = some (r, cs')) (hfm : f_X9_net sm (sa xs i 1) (sa xs i 2) (sa xs i 3) = some (r, sm')) (hcs : cells + 25 ≤ 601024 ∧ slots + 6480 ≤ 7293034)
    (hP : gP g (CSw g a cs ++ (CSp g a cs ++ (Mo_c g am sm ++ Lout g d dv))) H) (hD : va_D (lA s) (CSw g a cs ++ (CSp g a cs ++ (Mo_c g am sm ++ Lout g d dv)))) (hS : va_S (lA s) s.heap H locs)
    (next : ∀ (a' : Nat → Nat) (H1 : Heap) (locs1 : List Loc), a' 0 = a 0 → gP g (CSw g a' cs' ++ (CSp g a' cs' ++ (Mo_c g am sm' ++ Lout g d dv))) H1 → va_D (lA s) (CSw g a' cs' ++ (CSp g a' cs' ++ (Mo_c g am sm' ++ Lout g d dv))) → va_S (lA s) s.heap H1 locs1 → W p l e room_1 s m #[Value.ref b] below meth c H1 locs1 (cells + 25) (slots + 6480) Q (F0 m 1571 ls [])) :
    W p l e room_1 s m #[Value.ref b] below meth c H locs cells slots Q (F0 m 439 ls []) := by
  rcases cs with s1 | s1 | ⟨s1, h⟩
  · obtain ⟨q, hq, he⟩ := gmp hfc
    cases he
    exact lo_net (X := Unit) (po := []) (mc := 0) (ms := 0) hL hl hin (c_X8_net_N l g a s1 (sa xs i 1) (sa xs i 2) (sa xs i 3) _ hq) ⟨rfl, rfl⟩ ⟨Nat.le_of_ble_eq_true rfl, Nat.le_of_ble_eq_true rfl⟩ rfl hfm ⟨Nat.le_trans (Nat.add_le_add_left (Nat.le_of_ble_eq_true rfl) _) hcs.1, Nat.le_trans (Nat.add_le_add_left (Nat.le_of_ble_eq_true rfl) _) hcs.2⟩ hP hD hS (fun x H1 locs1 hP hD hS => W.widen (Nat.add_le_add_left (Nat.le_of_ble_eq_true rfl) _) (Nat.add_le_add_left (Nat.le_of_ble_eq_true rfl) _) (next a H1 locs1 rfl hP hD hS))
  · obtain ⟨q, hq, he⟩ := gmp hfc
    cases he
    exact lo_net (X := Unit) (po := []) (mc := 0) (ms := 0) hL hl hin (c_X8_net_B l g a .null s1 (sa xs i 1) (sa xs i 2) (sa xs i 3) _ hq) ⟨rfl, rfl⟩ ⟨Nat.le_of_ble_eq_true rfl, Nat.le_of_ble_eq_true rfl⟩ rfl hfm ⟨Nat.le_trans (Nat.add_le_add_left (Nat.le_of_ble_eq_true rfl) _) hcs.1, Nat.le_trans (Nat.add_le_add_left (Nat.le_of_ble_eq_true rfl) _) hcs.2⟩ hP hD hS (fun x H1 locs1 hP hD hS => W.widen (Nat.add_le_add_left (Nat.le_of_ble_eq_true rfl) _) (Nat.add_le_add_left (Nat.le_of_ble_eq_true rfl) _) (next a H1 locs1 rfl hP hD hS))
  · obtain ⟨q, hq, he⟩ := gmp hfc
    cases he
    exact lo_net (X := Unit) (po := (Bk_c g (fun k => a (k + 44)) h)) (mc := 0) (ms := 0) hL hl hin (c_X8_net_B l g a (.ref (a 44)) s1 (sa xs i 1) (sa xs i 2) (sa xs i 3) _ hq) ⟨rfl, rfl⟩ ⟨Nat.le_of_ble_eq_true rfl, Nat.le_of_ble_eq_true rfl⟩ rfl hfm ⟨Nat.le_trans (Nat.add_le_add_left (Nat.le_of_ble_eq_true rfl) _) hcs.1, Nat.le_trans (Nat.add_le_add_left (Nat.le_of_ble_eq_true rfl) _) hcs.2⟩ hP hD hS (fun x H1 locs1 hP hD hS => W.widen (Nat.add_le_add_left (Nat.le_of_ble_eq_true rfl) _) (Nat.add_le_add_left (Nat.le_of_ble_eq_true rfl) _) (next a H1 locs1 rfl hP hD hS))
abbrev fc_there (cs : CS) (a1 a2 : Int32) : Option (Int32 × CS) := match cs with
  | .inl s => (f_X8_there_N s a1 a2).map fun q => (q.1, csN q.2)
  | .inr (.inl s) => (f_X8_there_B s a1 a2).map fun q => (q.1, csB q.2)
  | .inr (.inr (s, h)) => (f_X8_there_B s a1 a2).map fun q => (q.1, csS q.2 h)
set_option maxHeartbeats 1000000 in
theorem ld_there {a : Nat → Nat} {cs cs' : CS} {r : Int32} {sm sm' : MoT} {dv : Nat → Int64} (hL : LE p c meth s m g b L xs) (hl : LV ls b (a 0) (am 0) d i) (hin : LI i L)
    (hfc : fc_there cs (sa xs i 1) (sa xs i 2) = some (r, cs')) (hfm : f_X9_there sm (sa xs i 1) (sa xs i 2) = some (r, sm')) (hcs : cells + 25 ≤ 601024 ∧ slots + 6480 ≤ 7293034)
    (hP : gP g (CSw g a cs ++ (CSp g a cs ++ (Mo_c g am sm ++ Lout g d dv))) H) (hD : va_D (lA s) (CSw g a cs ++ (CSp g a cs ++ (Mo_c g am sm ++ Lout g d dv)))) (hS : va_S (lA s) s.heap H locs)
    (next : ∀ (a' : Nat → Nat) (H1 : Heap) (locs1 : List Loc), a' 0 = a 0 → gP g (CSw g a' cs' ++ (CSp g a' cs' ++ (Mo_c g am sm' ++ Lout g d dv))) H1 → va_D (lA s) (CSw g a' cs' ++ (CSp g a' cs' ++ (Mo_c g am sm' ++ Lout g d dv))) → va_S (lA s) s.heap H1 locs1 → W p l e room_1 s m #[Value.ref b] below meth c H1 locs1 (cells + 25) (slots + 6480) Q (F0 m 1571 ls [])) :
    W p l e room_1 s m #[Value.ref b] below meth c H locs cells slots Q (F0 m 488 ls []) := by
  rcases cs with s1 | s1 | ⟨s1, h⟩
  · obtain ⟨q, hq, he⟩ := gmp hfc
    cases he
    exact lo_there (X := Unit) (po := []) (mc := 0) (ms := 0) hL hl hin (c_X8_there_N l g a s1 (sa xs i 1) (sa xs i 2) _ hq) ⟨rfl, rfl⟩ ⟨Nat.le_of_ble_eq_true rfl, Nat.le_of_ble_eq_true rfl⟩ rfl hfm ⟨Nat.le_trans (Nat.add_le_add_left (Nat.le_of_ble_eq_true rfl) _) hcs.1, Nat.le_trans (Nat.add_le_add_left (Nat.le_of_ble_eq_true rfl) _) hcs.2⟩ hP hD hS (fun x H1 locs1 hP hD hS => W.widen (Nat.add_le_add_left (Nat.le_of_ble_eq_true rfl) _) (Nat.add_le_add_left (Nat.le_of_ble_eq_true rfl) _) (next a H1 locs1 rfl hP hD hS))
  · obtain ⟨q, hq, he⟩ := gmp hfc
    cases he
    exact lo_there (X := Unit) (po := []) (mc := 0) (ms := 0) hL hl hin (c_X8_there_B l g a .null s1 (sa xs i 1) (sa xs i 2) _ hq) ⟨rfl, rfl⟩ ⟨Nat.le_of_ble_eq_true rfl, Nat.le_of_ble_eq_true rfl⟩ rfl hfm ⟨Nat.le_trans (Nat.add_le_add_left (Nat.le_of_ble_eq_true rfl) _) hcs.1, Nat.le_trans (Nat.add_le_add_left (Nat.le_of_ble_eq_true rfl) _) hcs.2⟩ hP hD hS (fun x H1 locs1 hP hD hS => W.widen (Nat.add_le_add_left (Nat.le_of_ble_eq_true rfl) _) (Nat.add_le_add_left (Nat.le_of_ble_eq_true rfl) _) (next a H1 locs1 rfl hP hD hS))
  · obtain ⟨q, hq, he⟩ := gmp hfc
    cases he
    exact lo_there (X := Unit) (po := (Bk_c g (fun k => a (k + 44)) h)) (mc := 0) (ms := 0) hL hl hin (c_X8_there_B l g a (.ref (a 44)) s1 (sa xs i 1) (sa xs i 2) _ hq) ⟨rfl, rfl⟩ ⟨Nat.le_of_ble_eq_true rfl, Nat.le_of_ble_eq_true rfl⟩ rfl hfm ⟨Nat.le_trans (Nat.add_le_add_left (Nat.le_of_ble_eq_true rfl) _) hcs.1, Nat.le_trans (Nat.add_le_add_left (Nat.le_of_ble_eq_true rfl) _) hcs.2⟩ hP hD hS (fun x H1 locs1 hP hD hS => W.widen (Nat.add_le_add_left (Nat.le_of_ble_eq_true rfl) _) (Nat.add_le_add_left (Nat.le_of_ble_eq_true rfl) _) (next a H1 locs1 rfl hP hD hS))
abbrev fc_key (cs : CS) (a1 a2 : Int32) : Option (Int32 × CS) := match cs with
  | .inl s => (f_X8_key_N s a1 a2).map fun q => (q.1, csN q.2)
  | .inr (.inl s) => (f_X8_key_B s a1 a2).map fun q => (q.1, csB q.2)
  | .inr (.inr (s, h)) => (f_X8_key_B s a1 a2).map fun q => (q.1, csS q.2 h)
set_option maxHeartbeats 1000000 in
theorem ld_key {a : Nat → Nat} {cs cs' : CS} {r : Int32} {sm sm' : MoT} {dv : Nat → Int64} (hL : LE p c meth s m g b L xs) (hl : LV ls b (a 0) (am 0) d i) (hin : LI i L)
    (hfc : fc_key cs (sa xs i 1) (sa xs i 2) = some (r, cs')) (hfm : f_X9_key sm (sa xs i 1) (sa xs i 2) = some (r, sm')) (hcs : cells + 25 ≤ 601024 ∧ slots + 6480 ≤ 7293034)
    (hP : gP g (CSw g a cs ++ (CSp g a cs ++ (Mo_c g am sm ++ Lout g d dv))) H) (hD : va_D (lA s) (CSw g a cs ++ (CSp g a cs ++ (Mo_c g am sm ++ Lout g d dv)))) (hS : va_S (lA s) s.heap H locs)
    (next : ∀ (a' : Nat → Nat) (H1 : Heap) (locs1 : List Loc), a' 0 = a 0 → gP g (CSw g a' cs' ++ (CSp g a' cs' ++ (Mo_c g am sm' ++ Lout g d dv))) H1 → va_D (lA s) (CSw g a' cs' ++ (CSp g a' cs' ++ (Mo_c g am sm' ++ Lout g d dv))) → va_S (lA s) s.heap H1 locs1 → W p l e room_1 s m #[Value.ref b] below meth c H1 locs1 (cells + 25) (slots + 6480) Q (F0 m 1571 ls [])) :
    W p l e room_1 s m #[Value.ref b] below meth c H locs cells slots Q (F0 m 525 ls []) := by
  rcases cs with s1 | s1 | ⟨s1, h⟩
  · obtain ⟨q, hq, he⟩ := gmp hfc
    cases he
    exact lo_key (X := Unit) (po := []) (mc := 0) (ms := 0) hL hl hin (c_X8_key_N l g a s1 (sa xs i 1) (sa xs i 2) _ hq) ⟨rfl, rfl⟩ ⟨Nat.le_of_ble_eq_true rfl, Nat.le_of_ble_eq_true rfl⟩ rfl hfm ⟨Nat.le_trans (Nat.add_le_add_left (Nat.le_of_ble_eq_true rfl) _) hcs.1, Nat.le_trans (Nat.add_le_add_left (Nat.le_of_ble_eq_true rfl) _) hcs.2⟩ hP hD hS (fun x H1 locs1 hP hD hS => W.widen (Nat.add_le_add_left (Nat.le_of_ble_eq_true rfl) _) (Nat.add_le_add_left (Nat.le_of_ble_eq_true rfl) _) (next a H1 locs1 rfl hP hD hS))
  · obtain ⟨q, hq, he⟩ := gmp hfc
    cases he
    exact lo_key (X := Unit) (po := []) (mc := 0) (ms := 0) hL hl hin (c_X8_key_B l g a .null s1 (sa xs i 1) (sa xs i 2) _ hq) ⟨rfl, rfl⟩ ⟨Nat.le_of_ble_eq_true rfl, Nat.le_of_ble_eq_true rfl⟩ rfl hfm ⟨Nat.le_trans (Nat.add_le_add_left (Nat.le_of_ble_eq_true rfl) _) hcs.1, Nat.le_trans (Nat.add_le_add_left (Nat.le_of_ble_eq_true rfl) _) hcs.2⟩ hP hD hS (fun x H1 locs1 hP hD hS => W.widen (Nat.add_le_add_left (Nat.le_of_ble_eq_true rfl) _) (Nat.add_le_add_left (Nat.le_of_ble_eq_true rfl) _) (next a H1 locs1 rfl hP hD hS))
  · obtain ⟨q, hq, he⟩ := gmp hfc
    cases he
    exact lo_key (X := Unit) (po := (Bk_c g (fun k => a (k + 44)) h)) (mc := 0) (ms := 0) hL hl hin (c_X8_key_B l g a (.ref (a 44)) s1 (sa xs i 1) (sa xs i 2) _ hq) ⟨rfl, rfl⟩ ⟨Nat.le_of_ble_eq_true rfl, Nat.le_of_ble_eq_true rfl⟩ rfl hfm ⟨Nat.le_trans (Nat.add_le_add_left (Nat.le_of_ble_eq_true rfl) _) hcs.1, Nat.le_trans (Nat.add_le_add_left (Nat.le_of_ble_eq_true rfl) _) hcs.2⟩ hP hD hS (fun x H1 locs1 hP hD hS => W.widen (Nat.add_le_add_left (Nat.le_of_ble_eq_true rfl) _) (Nat.add_le_add_left (Nat.le_of_ble_eq_true rfl) _) (next a H1 locs1 rfl hP hD hS))
abbrev fc_debts (cs : CS) (a1 : Int32) : Option (Int32 × CS) := match cs with
  | .inl s => (f_X8_debts_N s a1).map fun q => (q.1, csN q.2)
  | .inr (.inl s) => (f_X8_debts_B s a1).map fun q => (q.1, csB q.2)
  | .inr (.inr (s, h)) => (f_X8_debts_B s a1).map fun q => (q.1, csS q.2 h)
set_option maxHeartbeats 1000000 in
theorem ld_debts {a : Nat → Nat} {cs cs' : CS} {r : Int32} {sm sm' : MoT} {dv : Nat → Int64} (hL : LE p c meth s m g b L xs) (hl : LV ls b (a 0) (am 0) d i) (hin : LI i L)
    (hfc : fc_debts cs (sa xs i 1) = some (r, cs')) (hfm : f_X9_debts sm (sa xs i 1) = some (r, sm')) (hcs : cells + 25 ≤ 601024 ∧ slots + 6480 ≤ 7293034)
    (hP : gP g (CSw g a cs ++ (CSp g a cs ++ (Mo_c g am sm ++ Lout g d dv))) H) (hD : va_D (lA s) (CSw g a cs ++ (CSp g a cs ++ (Mo_c g am sm ++ Lout g d dv)))) (hS : va_S (lA s) s.heap H locs)
    (next : ∀ (a' : Nat → Nat) (H1 : Heap) (locs1 : List Loc), a' 0 = a 0 → gP g (CSw g a' cs' ++ (CSp g a' cs' ++ (Mo_c g am sm' ++ Lout g d dv))) H1 → va_D (lA s) (CSw g a' cs' ++ (CSp g a' cs' ++ (Mo_c g am sm' ++ Lout g d dv))) → va_S (lA s) s.heap H1 locs1 → W p l e room_1 s m #[Value.ref b] below meth c H1 locs1 (cells + 25) (slots + 6480) Q (F0 m 1571 ls [])) :
    W p l e room_1 s m #[Value.ref b] below meth c H locs cells slots Q (F0 m 562 ls []) := by
  rcases cs with s1 | s1 | ⟨s1, h⟩
  · obtain ⟨q, hq, he⟩ := gmp hfc
    cases he
    exact lo_debts (X := Unit) (po := []) (mc := 0) (ms := 0) hL hl hin (c_X8_debts_N l g a s1 (sa xs i 1) _ hq) ⟨rfl, rfl⟩ ⟨Nat.le_of_ble_eq_true rfl, Nat.le_of_ble_eq_true rfl⟩ rfl hfm ⟨Nat.le_trans (Nat.add_le_add_left (Nat.le_of_ble_eq_true rfl) _) hcs.1, Nat.le_trans (Nat.add_le_add_left (Nat.le_of_ble_eq_true rfl) _) hcs.2⟩ hP hD hS (fun x H1 locs1 hP hD hS => W.widen (Nat.add_le_add_left (Nat.le_of_ble_eq_true rfl) _) (Nat.add_le_add_left (Nat.le_of_ble_eq_true rfl) _) (next a H1 locs1 rfl hP hD hS))
  · obtain ⟨q, hq, he⟩ := gmp hfc
    cases he
    exact lo_debts (X := Unit) (po := []) (mc := 0) (ms := 0) hL hl hin (c_X8_debts_B l g a .null s1 (sa xs i 1) _ hq) ⟨rfl, rfl⟩ ⟨Nat.le_of_ble_eq_true rfl, Nat.le_of_ble_eq_true rfl⟩ rfl hfm ⟨Nat.le_trans (Nat.add_le_add_left (Nat.le_of_ble_eq_true rfl) _) hcs.1, Nat.le_trans (Nat.add_le_add_left (Nat.le_of_ble_eq_true rfl) _) hcs.2⟩ hP hD hS (fun x H1 locs1 hP hD hS => W.widen (Nat.add_le_add_left (Nat.le_of_ble_eq_true rfl) _) (Nat.add_le_add_left (Nat.le_of_ble_eq_true rfl) _) (next a H1 locs1 rfl hP hD hS))
  · obtain ⟨q, hq, he⟩ := gmp hfc
    cases he
    exact lo_debts (X := Unit) (po := (Bk_c g (fun k => a (k + 44)) h)) (mc := 0) (ms := 0) hL hl hin (c_X8_debts_B l g a (.ref (a 44)) s1 (sa xs i 1) _ hq) ⟨rfl, rfl⟩ ⟨Nat.le_of_ble_eq_true rfl, Nat.le_of_ble_eq_true rfl⟩ rfl hfm ⟨Nat.le_trans (Nat.add_le_add_left (Nat.le_of_ble_eq_true rfl) _) hcs.1, Nat.le_trans (Nat.add_le_add_left (Nat.le_of_ble_eq_true rfl) _) hcs.2⟩ hP hD hS (fun x H1 locs1 hP hD hS => W.widen (Nat.add_le_add_left (Nat.le_of_ble_eq_true rfl) _) (Nat.add_le_add_left (Nat.le_of_ble_eq_true rfl) _) (next a H1 locs1 rfl hP hD hS))
abbrev fc_sent (cs : CS) (a1 a2 a3 : Int32) : Option (Int32 × CS) := match cs with
  | .inl s => (f_X8_sent_N s a1 a2 a3).map fun q => (q.1, csN q.2)
  | .inr (.inl s) => (f_X8_sent_B s a1 a2 a3).map fun q => (q.1, csB q.2)
  | .inr (.inr (s, h)) => (f_X8_sent_B s a1 a2 a3).map fun q => (q.1, csS q.2 h)
set_option maxHeartbeats 1000000 in
theorem ld_sent {a : Nat → Nat} {cs cs' : CS} {r : Int32} {sm sm' : MoT} {dv : Nat → Int64} (hL : LE p c meth s m g b L xs) (hl : LV ls b (a 0) (am 0) d i) (hin : LI i L)
    (hfc : fc_sent cs (sa xs i 1) (sa xs i 2) (sa xs i 3) = some (r, cs')) (hfm : f_X9_sent sm (sa xs i 1) (sa xs i 2) (sa xs i 3) = some (r, sm')) (hcs : cells + 25 ≤ 601024 ∧ slots + 6480 ≤ 7293034)
    (hP : gP g (CSw g a cs ++ (CSp g a cs ++ (Mo_c g am sm ++ Lout g d dv))) H) (hD : va_D (lA s) (CSw g a cs ++ (CSp g a cs ++ (Mo_c g am sm ++ Lout g d dv)))) (hS : va_S (lA s) s.heap H locs)
    (next : ∀ (a' : Nat → Nat) (H1 : Heap) (locs1 : List Loc), a' 0 = a 0 → gP g (CSw g a' cs' ++ (CSp g a' cs' ++ (Mo_c g am sm' ++ Lout g d dv))) H1 → va_D (lA s) (CSw g a' cs' ++ (CSp g a' cs' ++ (Mo_c g am sm' ++ Lout g d dv))) → va_S (lA s) s.heap H1 locs1 → W p l e room_1 s m #[Value.ref b] below meth c H1 locs1 (cells + 25) (slots + 6480) Q (F0 m 1571 ls [])) :
    W p l e room_1 s m #[Value.ref b] below meth c H locs cells slots Q (F0 m 587 ls []) := by
  rcases cs with s1 | s1 | ⟨s1, h⟩
  · obtain ⟨q, hq, he⟩ := gmp hfc
    cases he
    exact lo_sent (X := Unit) (po := []) (mc := 0) (ms := 0) hL hl hin (c_X8_sent_N l g a s1 (sa xs i 1) (sa xs i 2) (sa xs i 3) _ hq) ⟨rfl, rfl⟩ ⟨Nat.le_of_ble_eq_true rfl, Nat.le_of_ble_eq_true rfl⟩ rfl hfm ⟨Nat.le_trans (Nat.add_le_add_left (Nat.le_of_ble_eq_true rfl) _) hcs.1, Nat.le_trans (Nat.add_le_add_left (Nat.le_of_ble_eq_true rfl) _) hcs.2⟩ hP hD hS (fun x H1 locs1 hP hD hS => W.widen (Nat.add_le_add_left (Nat.le_of_ble_eq_true rfl) _) (Nat.add_le_add_left (Nat.le_of_ble_eq_true rfl) _) (next a H1 locs1 rfl hP hD hS))
  · obtain ⟨q, hq, he⟩ := gmp hfc
    cases he
    exact lo_sent (X := Unit) (po := []) (mc := 0) (ms := 0) hL hl hin (c_X8_sent_B l g a .null s1 (sa xs i 1) (sa xs i 2) (sa xs i 3) _ hq) ⟨rfl, rfl⟩ ⟨Nat.le_of_ble_eq_true rfl, Nat.le_of_ble_eq_true rfl⟩ rfl hfm ⟨Nat.le_trans (Nat.add_le_add_left (Nat.le_of_ble_eq_true rfl) _) hcs.1, Nat.le_trans (Nat.add_le_add_left (Nat.le_of_ble_eq_true rfl) _) hcs.2⟩ hP hD hS (fun x H1 locs1 hP hD hS => W.widen (Nat.add_le_add_left (Nat.le_of_ble_eq_true rfl) _) (Nat.add_le_add_left (Nat.le_of_ble_eq_true rfl) _) (next a H1 locs1 rfl hP hD hS))
  · obtain ⟨q, hq, he⟩ := gmp hfc
    cases he
    exact lo_sent (X := Unit) (po := (Bk_c g (fun k => a (k + 44)) h)) (mc := 0) (ms := 0) hL hl hin (c_X8_sent_B l g a (.ref (a 44)) s1 (sa xs i 1) (sa xs i 2) (sa xs i 3) _ hq) ⟨rfl, rfl⟩ ⟨Nat.le_of_ble_eq_true rfl, Nat.le_of_ble_eq_true rfl⟩ rfl hfm ⟨Nat.le_trans (Nat.add_le_add_left (Nat.le_of_ble_eq_true rfl) _) hcs.1, Nat.le_trans (Nat.add_le_add_left (Nat.le_of_ble_eq_true rfl) _) hcs.2⟩ hP hD hS (fun x H1 locs1 hP hD hS => W.widen (Nat.add_le_add_left (Nat.le_of_ble_eq_true rfl) _) (Nat.add_le_add_left (Nat.le_of_ble_eq_true rfl) _) (next a H1 locs1 rfl hP hD hS))
abbrev fc_join (cs : CS) (a1 a2 a3 : Int32) : Option (Int32 × CS) := match cs with
  | .inl s => (f_X8_join_N s a1 a2 a3).map fun q => (q.1, csN q.2)
  | .inr (.inl s) => (f_X8_join_B s a1 a2 a3).map fun q => (q.1, csB q.2)
  | .inr (.inr (s, h)) => (f_X8_join_B s a1 a2 a3).map fun q => (q.1, csS q.2 h)
set_option maxHeartbeats 1000000 in
theorem ld_join {a : Nat → Nat} {cs cs' : CS} {r : Int32} {sm sm' : MoT} {dv : Nat → Int64} (hL : LE p c meth s m g b L xs) (hl : LV ls b (a 0) (am 0) d i) (hin : LI i L)
    (hfc : fc_join cs (sa xs i 1) (sa xs i 2) (sa xs i 3) = some (r, cs')) (hfm : f_X9_join sm (sa xs i 1) (sa xs i 2) (sa xs i 3) = some (r, sm')) (hcs : cells + 25 ≤ 601024 ∧ slots + 6480 ≤ 7293034)
    (hP : gP g (CSw g a cs ++ (CSp g a cs ++ (Mo_c g am sm ++ Lout g d dv))) H) (hD : va_D (lA s) (CSw g a cs ++ (CSp g a cs ++ (Mo_c g am sm ++ Lout g d dv)))) (hS : va_S (lA s) s.heap H locs)
    (next : ∀ (a' : Nat → Nat) (H1 : Heap) (locs1 : List Loc), a' 0 = a 0 → gP g (CSw g a' cs' ++ (CSp g a' cs' ++ (Mo_c g am sm' ++ Lout g d dv))) H1 → va_D (lA s) (CSw g a' cs' ++ (CSp g a' cs' ++ (Mo_c g am sm' ++ Lout g d dv))) → va_S (lA s) s.heap H1 locs1 → W p l e room_1 s m #[Value.ref b] below meth c H1 locs1 (cells + 25) (slots + 6480) Q (F0 m 1571 ls [])) :
    W p l e room_1 s m #[Value.ref b] below meth c H locs cells slots Q (F0 m 636 ls []) := by
  rcases cs with s1 | s1 | ⟨s1, h⟩
  · obtain ⟨q, hq, he⟩ := gmp hfc
    cases he
    exact lo_join (X := Unit) (po := []) (mc := 0) (ms := 0) hL hl hin (c_X8_join_N l g a s1 (sa xs i 1) (sa xs i 2) (sa xs i 3) _ hq) ⟨rfl, rfl⟩ ⟨Nat.le_of_ble_eq_true rfl, Nat.le_of_ble_eq_true rfl⟩ rfl hfm ⟨Nat.le_trans (Nat.add_le_add_left (Nat.le_of_ble_eq_true rfl) _) hcs.1, Nat.le_trans (Nat.add_le_add_left (Nat.le_of_ble_eq_true rfl) _) hcs.2⟩ hP hD hS (fun x H1 locs1 hP hD hS => W.widen (Nat.add_le_add_left (Nat.le_of_ble_eq_true rfl) _) (Nat.add_le_add_left (Nat.le_of_ble_eq_true rfl) _) (next a H1 locs1 rfl hP hD hS))
  · obtain ⟨q, hq, he⟩ := gmp hfc
    cases he
    exact lo_join (X := Unit) (po := []) (mc := 0) (ms := 0) hL hl hin (c_X8_join_B l g a .null s1 (sa xs i 1) (sa xs i 2) (sa xs i 3) _ hq) ⟨rfl, rfl⟩ ⟨Nat.le_of_ble_eq_true rfl, Nat.le_of_ble_eq_true rfl⟩ rfl hfm ⟨Nat.le_trans (Nat.add_le_add_left (Nat.le_of_ble_eq_true rfl) _) hcs.1, Nat.le_trans (Nat.add_le_add_left (Nat.le_of_ble_eq_true rfl) _) hcs.2⟩ hP hD hS (fun x H1 locs1 hP hD hS => W.widen (Nat.add_le_add_left (Nat.le_of_ble_eq_true rfl) _) (Nat.add_le_add_left (Nat.le_of_ble_eq_true rfl) _) (next a H1 locs1 rfl hP hD hS))
  · obtain ⟨q, hq, he⟩ := gmp hfc
    cases he
    exact lo_join (X := Unit) (po := (Bk_c g (fun k => a (k + 44)) h)) (mc := 0) (ms := 0) hL hl hin (c_X8_join_B l g a (.ref (a 44)) s1 (sa xs i 1) (sa xs i 2) (sa xs i 3) _ hq) ⟨rfl, rfl⟩ ⟨Nat.le_of_ble_eq_true rfl, Nat.le_of_ble_eq_true rfl⟩ rfl hfm ⟨Nat.le_trans (Nat.add_le_add_left (Nat.le_of_ble_eq_true rfl) _) hcs.1, Nat.le_trans (Nat.add_le_add_left (Nat.le_of_ble_eq_true rfl) _) hcs.2⟩ hP hD hS (fun x H1 locs1 hP hD hS => W.widen (Nat.add_le_add_left (Nat.le_of_ble_eq_true rfl) _) (Nat.add_le_add_left (Nat.le_of_ble_eq_true rfl) _) (next a H1 locs1 rfl hP hD hS))
abbrev fc_closed (cs : CS) (a1 a2 a3 : Int32) : Option (Int32 × CS) := match cs with
  | .inl s => (f_X8_closed_N s a1 a2 a3).map fun q => (q.1, csN q.2)
  | .inr (.inl s) => (f_X8_closed_B s a1 a2 a3).map fun q => (q.1, csB q.2)
  | .inr (.inr (s, h)) => (f_X8_closed_B s a1 a2 a3).map fun q => (q.1, csS q.2 h)
set_option maxHeartbeats 1000000 in
theorem ld_closed {a : Nat → Nat} {cs cs' : CS} {r : Int32} {sm sm' : MoT} {dv : Nat → Int64} (hL : LE p c meth s m g b L xs) (hl : LV ls b (a 0) (am 0) d i) (hin : LI i L)
    (hfc : fc_closed cs (sa xs i 1) (sa xs i 2) (sa xs i 3) = some (r, cs')) (hfm : f_X9_closed sm (sa xs i 1) (sa xs i 2) (sa xs i 3) = some (r, sm')) (hcs : cells + 25 ≤ 601024 ∧ slots + 6480 ≤ 7293034)
    (hP : gP g (CSw g a cs ++ (CSp g a cs ++ (Mo_c g am sm ++ Lout g d dv))) H) (hD : va_D (lA s) (CSw g a cs ++ (CSp g a cs ++ (Mo_c g am sm ++ Lout g d dv)))) (hS : va_S (lA s) s.heap H locs)
    (next : ∀ (a' : Nat → Nat) (H1 : Heap) (locs1 : List Loc), a' 0 = a 0 → gP g (CSw g a' cs' ++ (CSp g a' cs' ++ (Mo_c g am sm' ++ Lout g d dv))) H1 → va_D (lA s) (CSw g a' cs' ++ (CSp g a' cs' ++ (Mo_c g am sm' ++ Lout g d dv))) → va_S (lA s) s.heap H1 locs1 → W p l e room_1 s m #[Value.ref b] below meth c H1 locs1 (cells + 25) (slots + 6480) Q (F0 m 1571 ls [])) :
    W p l e room_1 s m #[Value.ref b] below meth c H locs cells slots Q (F0 m 685 ls []) := by
  rcases cs with s1 | s1 | ⟨s1, h⟩
  · obtain ⟨q, hq, he⟩ := gmp hfc
    cases he
    exact lo_closed (X := Unit) (po := []) (mc := 0) (ms := 0) hL hl hin (c_X8_closed_N l g a s1 (sa xs i 1) (sa xs i 2) (sa xs i 3) _ hq) ⟨rfl, rfl⟩ ⟨Nat.le_of_ble_eq_true rfl, Nat.le_of_ble_eq_true rfl⟩ rfl hfm ⟨Nat.le_trans (Nat.add_le_add_left (Nat.le_of_ble_eq_true rfl) _) hcs.1, Nat.le_trans (Nat.add_le_add_left (Nat.le_of_ble_eq_true rfl) _) hcs.2⟩ hP hD hS (fun x H1 locs1 hP hD hS => W.widen (Nat.add_le_add_left (Nat.le_of_ble_eq_true rfl) _) (Nat.add_le_add_left (Nat.le_of_ble_eq_true rfl) _) (next a H1 locs1 rfl hP hD hS))
  · obtain ⟨q, hq, he⟩ := gmp hfc
    cases he
    exact lo_closed (X := Unit) (po := []) (mc := 0) (ms := 0) hL hl hin (c_X8_closed_B l g a .null s1 (sa xs i 1) (sa xs i 2) (sa xs i 3) _ hq) ⟨rfl, rfl⟩ ⟨Nat.le_of_ble_eq_true rfl, Nat.le_of_ble_eq_true rfl⟩ rfl hfm ⟨Nat.le_trans (Nat.add_le_add_left (Nat.le_of_ble_eq_true rfl) _) hcs.1, Nat.le_trans (Nat.add_le_add_left (Nat.le_of_ble_eq_true rfl) _) hcs.2⟩ hP hD hS (fun x H1 locs1 hP hD hS => W.widen (Nat.add_le_add_left (Nat.le_of_ble_eq_true rfl) _) (Nat.add_le_add_left (Nat.le_of_ble_eq_true rfl) _) (next a H1 locs1 rfl hP hD hS))
  · obtain ⟨q, hq, he⟩ := gmp hfc
    cases he
    exact lo_closed (X := Unit) (po := (Bk_c g (fun k => a (k + 44)) h)) (mc := 0) (ms := 0) hL hl hin (c_X8_closed_B l g a (.ref (a 44)) s1 (sa xs i 1) (sa xs i 2) (sa xs i 3) _ hq) ⟨rfl, rfl⟩ ⟨Nat.le_of_ble_eq_true rfl, Nat.le_of_ble_eq_true rfl⟩ rfl hfm ⟨Nat.le_trans (Nat.add_le_add_left (Nat.le_of_ble_eq_true rfl) _) hcs.1, Nat.le_trans (Nat.add_le_add_left (Nat.le_of_ble_eq_true rfl) _) hcs.2⟩ hP hD hS (fun x H1 locs1 hP hD hS => W.widen (Nat.add_le_add_left (Nat.le_of_ble_eq_true rfl) _) (Nat.add_le_add_left (Nat.le_of_ble_eq_true rfl) _) (next a H1 locs1 rfl hP hD hS))
abbrev fc_rows (cs : CS) : Option (Int32 × CS) := match cs with
  | .inl s => (f_X8_rows_N s).map fun q => (q.1, csN q.2)
  | .inr (.inl s) => (f_X8_rows_B s).map fun q => (q.1, csB q.2)
  | .inr (.inr (s, h)) => (f_X8_rows_B s).map fun q => (q.1, csS q.2 h)
set_option maxHeartbeats 1000000 in
theorem ld_rows {a : Nat → Nat} {cs cs' : CS} {r : Int32} {sm sm' : MoT} {dv : Nat → Int64} (hL : LE p c meth s m g b L xs) (hl : LV ls b (a 0) (am 0) d i) (hin : LI i L)
    (hfc : fc_rows cs = some (r, cs')) (hfm : f_X9_rows sm = some (r, sm')) (hcs : cells + 25 ≤ 601024 ∧ slots + 6480 ≤ 7293034)
    (hP : gP g (CSw g a cs ++ (CSp g a cs ++ (Mo_c g am sm ++ Lout g d dv))) H) (hD : va_D (lA s) (CSw g a cs ++ (CSp g a cs ++ (Mo_c g am sm ++ Lout g d dv)))) (hS : va_S (lA s) s.heap H locs)
    (next : ∀ (a' : Nat → Nat) (H1 : Heap) (locs1 : List Loc), a' 0 = a 0 → gP g (CSw g a' cs' ++ (CSp g a' cs' ++ (Mo_c g am sm' ++ Lout g d dv))) H1 → va_D (lA s) (CSw g a' cs' ++ (CSp g a' cs' ++ (Mo_c g am sm' ++ Lout g d dv))) → va_S (lA s) s.heap H1 locs1 → W p l e room_1 s m #[Value.ref b] below meth c H1 locs1 (cells + 25) (slots + 6480) Q (F0 m 1571 ls [])) :
    W p l e room_1 s m #[Value.ref b] below meth c H locs cells slots Q (F0 m 734 ls []) := by
  rcases cs with s1 | s1 | ⟨s1, h⟩
  · obtain ⟨q, hq, he⟩ := gmp hfc
    cases he
    exact lo_rows (X := Unit) (po := []) (mc := 0) (ms := 0) hL hl hin (c_X8_rows_N l g a s1 _ hq) ⟨rfl, rfl⟩ ⟨Nat.le_of_ble_eq_true rfl, Nat.le_of_ble_eq_true rfl⟩ rfl hfm ⟨Nat.le_trans (Nat.add_le_add_left (Nat.le_of_ble_eq_true rfl) _) hcs.1, Nat.le_trans (Nat.add_le_add_left (Nat.le_of_ble_eq_true rfl) _) hcs.2⟩ hP hD hS (fun x H1 locs1 hP hD hS => W.widen (Nat.add_le_add_left (Nat.le_of_ble_eq_true rfl) _) (Nat.add_le_add_left (Nat.le_of_ble_eq_true rfl) _) (next a H1 locs1 rfl hP hD hS))
  · obtain ⟨q, hq, he⟩ := gmp hfc
    cases he
    exact lo_rows (X := Unit) (po := []) (mc := 0) (ms := 0) hL hl hin (c_X8_rows_B l g a .null s1 _ hq) ⟨rfl, rfl⟩ ⟨Nat.le_of_ble_eq_true rfl, Nat.le_of_ble_eq_true rfl⟩ rfl hfm ⟨Nat.le_trans (Nat.add_le_add_left (Nat.le_of_ble_eq_true rfl) _) hcs.1, Nat.le_trans (Nat.add_le_add_left (Nat.le_of_ble_eq_true rfl) _) hcs.2⟩ hP hD hS (fun x H1 locs1 hP hD hS => W.widen (Nat.add_le_add_left (Nat.le_of_ble_eq_true rfl) _) (Nat.add_le_add_left (Nat.le_of_ble_eq_true rfl) _) (next a H1 locs1 rfl hP hD hS))
  · obtain ⟨q, hq, he⟩ := gmp hfc
    cases he
    exact lo_rows (X := Unit) (po := (Bk_c g (fun k => a (k + 44)) h)) (mc := 0) (ms := 0) hL hl hin (c_X8_rows_B l g a (.ref (a 44)) s1 _ hq) ⟨rfl, rfl⟩ ⟨Nat.le_of_ble_eq_true rfl, Nat.le_of_ble_eq_true rfl⟩ rfl hfm ⟨Nat.le_trans (Nat.add_le_add_left (Nat.le_of_ble_eq_true rfl) _) hcs.1, Nat.le_trans (Nat.add_le_add_left (Nat.le_of_ble_eq_true rfl) _) hcs.2⟩ hP hD hS (fun x H1 locs1 hP hD hS => W.widen (Nat.add_le_add_left (Nat.le_of_ble_eq_true rfl) _) (Nat.add_le_add_left (Nat.le_of_ble_eq_true rfl) _) (next a H1 locs1 rfl hP hD hS))
abbrev fc_row (cs : CS) (a1 a2 : Int32) : Option (Int32 × CS) := match cs with
  | .inl s => (f_X8_row_N s a1 a2).map fun q => (q.1, csN q.2)
  | .inr (.inl s) => (f_X8_row_B s a1 a2).map fun q => (q.1, csB q.2)
  | .inr (.inr (s, h)) => (f_X8_row_B s a1 a2).map fun q => (q.1, csS q.2 h)
set_option maxHeartbeats 1000000 in
theorem ld_row {a : Nat → Nat} {cs cs' : CS} {r : Int32} {sm sm' : MoT} {dv : Nat → Int64} (hL : LE p c meth s m g b L xs) (hl : LV ls b (a 0) (am 0) d i) (hin : LI i L)
    (hfc : fc_row cs (sa xs i 1) (sa xs i 2) = some (r, cs')) (hfm : f_X9_row sm (sa xs i 1) (sa xs i 2) = some (r, sm')) (hcs : cells + 25 ≤ 601024 ∧ slots + 6480 ≤ 7293034)
    (hP : gP g (CSw g a cs ++ (CSp g a cs ++ (Mo_c g am sm ++ Lout g d dv))) H) (hD : va_D (lA s) (CSw g a cs ++ (CSp g a cs ++ (Mo_c g am sm ++ Lout g d dv)))) (hS : va_S (lA s) s.heap H locs)
    (next : ∀ (a' : Nat → Nat) (H1 : Heap) (locs1 : List Loc), a' 0 = a 0 → gP g (CSw g a' cs' ++ (CSp g a' cs' ++ (Mo_c g am sm' ++ Lout g d dv))) H1 → va_D (lA s) (CSw g a' cs' ++ (CSp g a' cs' ++ (Mo_c g am sm' ++ Lout g d dv))) → va_S (lA s) s.heap H1 locs1 → W p l e room_1 s m #[Value.ref b] below meth c H1 locs1 (cells + 25) (slots + 6480) Q (F0 m 1571 ls [])) :
    W p l e room_1 s m #[Value.ref b] below meth c H locs cells slots Q (F0 m 747 ls []) := by
  rcases cs with s1 | s1 | ⟨s1, h⟩
  · obtain ⟨q, hq, he⟩ := gmp hfc
    cases he
    exact lo_row (X := Unit) (po := []) (mc := 0) (ms := 0) hL hl hin (c_X8_row_N l g a s1 (sa xs i 1) (sa xs i 2) _ hq) ⟨rfl, rfl⟩ ⟨Nat.le_of_ble_eq_true rfl, Nat.le_of_ble_eq_true rfl⟩ rfl hfm ⟨Nat.le_trans (Nat.add_le_add_left (Nat.le_of_ble_eq_true rfl) _) hcs.1, Nat.le_trans (Nat.add_le_add_left (Nat.le_of_ble_eq_true rfl) _) hcs.2⟩ hP hD hS (fun x H1 locs1 hP hD hS => W.widen (Nat.add_le_add_left (Nat.le_of_ble_eq_true rfl) _) (Nat.add_le_add_left (Nat.le_of_ble_eq_true rfl) _) (next a H1 locs1 rfl hP hD hS))
  · obtain ⟨q, hq, he⟩ := gmp hfc
    cases he
    exact lo_row (X := Unit) (po := []) (mc := 0) (ms := 0) hL hl hin (c_X8_row_B l g a .null s1 (sa xs i 1) (sa xs i 2) _ hq) ⟨rfl, rfl⟩ ⟨Nat.le_of_ble_eq_true rfl, Nat.le_of_ble_eq_true rfl⟩ rfl hfm ⟨Nat.le_trans (Nat.add_le_add_left (Nat.le_of_ble_eq_true rfl) _) hcs.1, Nat.le_trans (Nat.add_le_add_left (Nat.le_of_ble_eq_true rfl) _) hcs.2⟩ hP hD hS (fun x H1 locs1 hP hD hS => W.widen (Nat.add_le_add_left (Nat.le_of_ble_eq_true rfl) _) (Nat.add_le_add_left (Nat.le_of_ble_eq_true rfl) _) (next a H1 locs1 rfl hP hD hS))
  · obtain ⟨q, hq, he⟩ := gmp hfc
    cases he
    exact lo_row (X := Unit) (po := (Bk_c g (fun k => a (k + 44)) h)) (mc := 0) (ms := 0) hL hl hin (c_X8_row_B l g a (.ref (a 44)) s1 (sa xs i 1) (sa xs i 2) _ hq) ⟨rfl, rfl⟩ ⟨Nat.le_of_ble_eq_true rfl, Nat.le_of_ble_eq_true rfl⟩ rfl hfm ⟨Nat.le_trans (Nat.add_le_add_left (Nat.le_of_ble_eq_true rfl) _) hcs.1, Nat.le_trans (Nat.add_le_add_left (Nat.le_of_ble_eq_true rfl) _) hcs.2⟩ hP hD hS (fun x H1 locs1 hP hD hS => W.widen (Nat.add_le_add_left (Nat.le_of_ble_eq_true rfl) _) (Nat.add_le_add_left (Nat.le_of_ble_eq_true rfl) _) (next a H1 locs1 rfl hP hD hS))
abbrev fc_spell (dg : Int32 → List Int32) (cs : CS) (a1 a2 : Int32) : Option (Int32 × CS) := match cs with
  | .inl s => (f_X8_spell_N s a1 a2).map fun q => (q.1, csN q.2)
  | .inr (.inl s) => (f_spell dg s a1 a2).map fun q => (q.1, csB q.2)
  | .inr (.inr (s, h)) => (f_spell dg s a1 a2).map fun q => (q.1, csS q.2 h)
set_option maxHeartbeats 1000000 in
theorem ld_spell {a : Nat → Nat} {cs cs' : CS} {r : Int32} {sm sm' : MoT} {dv : Nat → Int64} (dg : Int32 → List Int32) (hdg : ∀ v, DigOK v (dg v)) (hd34 : ∀ s p tx, f_text dg s p = some tx → tx.length < 35) (hL : LE p c meth s m g b L xs) (hl : LV ls b (a 0) (am 0) d i) (hin : LI i L)
    (hfc : fc_spell dg cs (sa xs i 1) (sa xs i 2) = some (r, cs')) (hfm : f_X9_spell sm (sa xs i 1) (sa xs i 2) = some (r, sm')) (hcs : cells + 25 ≤ 601024 ∧ slots + 6480 ≤ 7293034)
    (hP : gP g (CSw g a cs ++ (CSp g a cs ++ (Mo_c g am sm ++ Lout g d dv))) H) (hD : va_D (lA s) (CSw g a cs ++ (CSp g a cs ++ (Mo_c g am sm ++ Lout g d dv)))) (hS : va_S (lA s) s.heap H locs)
    (next : ∀ (a' : Nat → Nat) (H1 : Heap) (locs1 : List Loc), a' 0 = a 0 → gP g (CSw g a' cs' ++ (CSp g a' cs' ++ (Mo_c g am sm' ++ Lout g d dv))) H1 → va_D (lA s) (CSw g a' cs' ++ (CSp g a' cs' ++ (Mo_c g am sm' ++ Lout g d dv))) → va_S (lA s) s.heap H1 locs1 → W p l e room_1 s m #[Value.ref b] below meth c H1 locs1 (cells + 25) (slots + 6480) Q (F0 m 1571 ls [])) :
    W p l e room_1 s m #[Value.ref b] below meth c H locs cells slots Q (F0 m 784 ls []) := by
  rcases cs with s1 | s1 | ⟨s1, h⟩
  · obtain ⟨q, hq, he⟩ := gmp hfc
    cases he
    exact lo_spell (X := Unit) (po := []) (mc := 0) (ms := 0) hL hl hin (c_X8_spell_N l g a s1 (sa xs i 1) (sa xs i 2) _ hq) ⟨rfl, rfl⟩ ⟨Nat.le_of_ble_eq_true rfl, Nat.le_of_ble_eq_true rfl⟩ rfl hfm ⟨Nat.le_trans (Nat.add_le_add_left (Nat.le_of_ble_eq_true rfl) _) hcs.1, Nat.le_trans (Nat.add_le_add_left (Nat.le_of_ble_eq_true rfl) _) hcs.2⟩ hP hD hS (fun x H1 locs1 hP hD hS => W.widen (Nat.add_le_add_left (Nat.le_of_ble_eq_true rfl) _) (Nat.add_le_add_left (Nat.le_of_ble_eq_true rfl) _) (next a H1 locs1 rfl hP hD hS))
  · obtain ⟨q, hq, he⟩ := gmp hfc
    cases he
    exact lo_spell (X := Unit) (po := []) (mc := 21) (ms := 666) hL hl hin (c_spell_B l g dg hdg hd34 a .null s1 (sa xs i 1) (sa xs i 2) _ hq) ⟨rfl, rfl⟩ ⟨Nat.le_of_ble_eq_true rfl, Nat.le_of_ble_eq_true rfl⟩ rfl hfm ⟨Nat.le_trans (Nat.add_le_add_left (Nat.le_of_ble_eq_true rfl) _) hcs.1, Nat.le_trans (Nat.add_le_add_left (Nat.le_of_ble_eq_true rfl) _) hcs.2⟩ hP hD hS (fun x H1 locs1 hP hD hS => W.widen (Nat.add_le_add_left (Nat.le_of_ble_eq_true rfl) _) (Nat.add_le_add_left (Nat.le_of_ble_eq_true rfl) _) (next a H1 locs1 rfl hP hD hS))
  · obtain ⟨q, hq, he⟩ := gmp hfc
    cases he
    exact lo_spell (X := Unit) (po := (Bk_c g (fun k => a (k + 44)) h)) (mc := 21) (ms := 666) hL hl hin (c_spell_B l g dg hdg hd34 a (.ref (a 44)) s1 (sa xs i 1) (sa xs i 2) _ hq) ⟨rfl, rfl⟩ ⟨Nat.le_of_ble_eq_true rfl, Nat.le_of_ble_eq_true rfl⟩ rfl hfm ⟨Nat.le_trans (Nat.add_le_add_left (Nat.le_of_ble_eq_true rfl) _) hcs.1, Nat.le_trans (Nat.add_le_add_left (Nat.le_of_ble_eq_true rfl) _) hcs.2⟩ hP hD hS (fun x H1 locs1 hP hD hS => W.widen (Nat.add_le_add_left (Nat.le_of_ble_eq_true rfl) _) (Nat.add_le_add_left (Nat.le_of_ble_eq_true rfl) _) (next a H1 locs1 rfl hP hD hS))
abbrev fc_traffic (cs : CS) (a1 : Int32) : Option (Int32 × CS) := match cs with
  | .inl s => (f_X8_traffic_N s a1).map fun q => (q.1, csN q.2)
  | .inr (.inl s) => (f_X8_traffic_B s a1).map fun q => (q.1, csB q.2)
  | .inr (.inr (s, h)) => (f_X8_traffic_B s a1).map fun q => (q.1, csS q.2 h)
set_option maxHeartbeats 1000000 in
theorem ld_traffic {a : Nat → Nat} {cs cs' : CS} {r : Int32} {sm sm' : MoT} {dv : Nat → Int64} (hL : LE p c meth s m g b L xs) (hl : LV ls b (a 0) (am 0) d i) (hin : LI i L)
    (hfc : fc_traffic cs (sa xs i 1) = some (r, cs')) (hfm : f_X9_traffic sm (sa xs i 1) = some (r, sm')) (hcs : cells + 25 ≤ 601024 ∧ slots + 6480 ≤ 7293034)
    (hP : gP g (CSw g a cs ++ (CSp g a cs ++ (Mo_c g am sm ++ Lout g d dv))) H) (hD : va_D (lA s) (CSw g a cs ++ (CSp g a cs ++ (Mo_c g am sm ++ Lout g d dv)))) (hS : va_S (lA s) s.heap H locs)
    (next : ∀ (a' : Nat → Nat) (H1 : Heap) (locs1 : List Loc), a' 0 = a 0 → gP g (CSw g a' cs' ++ (CSp g a' cs' ++ (Mo_c g am sm' ++ Lout g d dv))) H1 → va_D (lA s) (CSw g a' cs' ++ (CSp g a' cs' ++ (Mo_c g am sm' ++ Lout g d dv))) → va_S (lA s) s.heap H1 locs1 → W p l e room_1 s m #[Value.ref b] below meth c H1 locs1 (cells + 25) (slots + 6480) Q (F0 m 1571 ls [])) :
    W p l e room_1 s m #[Value.ref b] below meth c H locs cells slots Q (F0 m 821 ls []) := by
  rcases cs with s1 | s1 | ⟨s1, h⟩
  · obtain ⟨q, hq, he⟩ := gmp hfc
    cases he
    exact lo_traffic (X := Unit) (po := []) (mc := 0) (ms := 0) hL hl hin (c_X8_traffic_N l g a s1 (sa xs i 1) _ hq) ⟨rfl, rfl⟩ ⟨Nat.le_of_ble_eq_true rfl, Nat.le_of_ble_eq_true rfl⟩ rfl hfm ⟨Nat.le_trans (Nat.add_le_add_left (Nat.le_of_ble_eq_true rfl) _) hcs.1, Nat.le_trans (Nat.add_le_add_left (Nat.le_of_ble_eq_true rfl) _) hcs.2⟩ hP hD hS (fun x H1 locs1 hP hD hS => W.widen (Nat.add_le_add_left (Nat.le_of_ble_eq_true rfl) _) (Nat.add_le_add_left (Nat.le_of_ble_eq_true rfl) _) (next a H1 locs1 rfl hP hD hS))
  · obtain ⟨q, hq, he⟩ := gmp hfc
    cases he
    exact lo_traffic (X := Unit) (po := []) (mc := 0) (ms := 0) hL hl hin (c_X8_traffic_B l g a .null s1 (sa xs i 1) _ hq) ⟨rfl, rfl⟩ ⟨Nat.le_of_ble_eq_true rfl, Nat.le_of_ble_eq_true rfl⟩ rfl hfm ⟨Nat.le_trans (Nat.add_le_add_left (Nat.le_of_ble_eq_true rfl) _) hcs.1, Nat.le_trans (Nat.add_le_add_left (Nat.le_of_ble_eq_true rfl) _) hcs.2⟩ hP hD hS (fun x H1 locs1 hP hD hS => W.widen (Nat.add_le_add_left (Nat.le_of_ble_eq_true rfl) _) (Nat.add_le_add_left (Nat.le_of_ble_eq_true rfl) _) (next a H1 locs1 rfl hP hD hS))
  · obtain ⟨q, hq, he⟩ := gmp hfc
    cases he
    exact lo_traffic (X := Unit) (po := (Bk_c g (fun k => a (k + 44)) h)) (mc := 0) (ms := 0) hL hl hin (c_X8_traffic_B l g a (.ref (a 44)) s1 (sa xs i 1) _ hq) ⟨rfl, rfl⟩ ⟨Nat.le_of_ble_eq_true rfl, Nat.le_of_ble_eq_true rfl⟩ rfl hfm ⟨Nat.le_trans (Nat.add_le_add_left (Nat.le_of_ble_eq_true rfl) _) hcs.1, Nat.le_trans (Nat.add_le_add_left (Nat.le_of_ble_eq_true rfl) _) hcs.2⟩ hP hD hS (fun x H1 locs1 hP hD hS => W.widen (Nat.add_le_add_left (Nat.le_of_ble_eq_true rfl) _) (Nat.add_le_add_left (Nat.le_of_ble_eq_true rfl) _) (next a H1 locs1 rfl hP hD hS))
abbrev fc_log (cs : CS) (a1 a2 : Int32) : Option (Int32 × CS) := match cs with
  | .inl s => (f_X8_log_N s a1 a2).map fun q => (q.1, csN q.2)
  | .inr (.inl s) => (f_X8_log_B s a1 a2).map fun q => (q.1, csB q.2)
  | .inr (.inr (s, h)) => (f_X8_log_B s a1 a2).map fun q => (q.1, csS q.2 h)
set_option maxHeartbeats 1000000 in
theorem ld_log {a : Nat → Nat} {cs cs' : CS} {r : Int32} {sm sm' : MoT} {dv : Nat → Int64} (hL : LE p c meth s m g b L xs) (hl : LV ls b (a 0) (am 0) d i) (hin : LI i L)
    (hfc : fc_log cs (sa xs i 1) (sa xs i 2) = some (r, cs')) (hfm : f_X9_log sm (sa xs i 1) (sa xs i 2) = some (r, sm')) (hcs : cells + 25 ≤ 601024 ∧ slots + 6480 ≤ 7293034)
    (hP : gP g (CSw g a cs ++ (CSp g a cs ++ (Mo_c g am sm ++ Lout g d dv))) H) (hD : va_D (lA s) (CSw g a cs ++ (CSp g a cs ++ (Mo_c g am sm ++ Lout g d dv)))) (hS : va_S (lA s) s.heap H locs)
    (next : ∀ (a' : Nat → Nat) (H1 : Heap) (locs1 : List Loc), a' 0 = a 0 → gP g (CSw g a' cs' ++ (CSp g a' cs' ++ (Mo_c g am sm' ++ Lout g d dv))) H1 → va_D (lA s) (CSw g a' cs' ++ (CSp g a' cs' ++ (Mo_c g am sm' ++ Lout g d dv))) → va_S (lA s) s.heap H1 locs1 → W p l e room_1 s m #[Value.ref b] below meth c H1 locs1 (cells + 25) (slots + 6480) Q (F0 m 1571 ls [])) :
    W p l e room_1 s m #[Value.ref b] below meth c H locs cells slots Q (F0 m 846 ls []) := by
  rcases cs with s1 | s1 | ⟨s1, h⟩
  · obtain ⟨q, hq, he⟩ := gmp hfc
    cases he
    exact lo_log (X := Unit) (po := []) (mc := 0) (ms := 0) hL hl hin (c_X8_log_N l g a s1 (sa xs i 1) (sa xs i 2) _ hq) ⟨rfl, rfl⟩ ⟨Nat.le_of_ble_eq_true rfl, Nat.le_of_ble_eq_true rfl⟩ rfl hfm ⟨Nat.le_trans (Nat.add_le_add_left (Nat.le_of_ble_eq_true rfl) _) hcs.1, Nat.le_trans (Nat.add_le_add_left (Nat.le_of_ble_eq_true rfl) _) hcs.2⟩ hP hD hS (fun x H1 locs1 hP hD hS => W.widen (Nat.add_le_add_left (Nat.le_of_ble_eq_true rfl) _) (Nat.add_le_add_left (Nat.le_of_ble_eq_true rfl) _) (next a H1 locs1 rfl hP hD hS))
  · obtain ⟨q, hq, he⟩ := gmp hfc
    cases he
    exact lo_log (X := Unit) (po := []) (mc := 0) (ms := 0) hL hl hin (c_X8_log_B l g a .null s1 (sa xs i 1) (sa xs i 2) _ hq) ⟨rfl, rfl⟩ ⟨Nat.le_of_ble_eq_true rfl, Nat.le_of_ble_eq_true rfl⟩ rfl hfm ⟨Nat.le_trans (Nat.add_le_add_left (Nat.le_of_ble_eq_true rfl) _) hcs.1, Nat.le_trans (Nat.add_le_add_left (Nat.le_of_ble_eq_true rfl) _) hcs.2⟩ hP hD hS (fun x H1 locs1 hP hD hS => W.widen (Nat.add_le_add_left (Nat.le_of_ble_eq_true rfl) _) (Nat.add_le_add_left (Nat.le_of_ble_eq_true rfl) _) (next a H1 locs1 rfl hP hD hS))
  · obtain ⟨q, hq, he⟩ := gmp hfc
    cases he
    exact lo_log (X := Unit) (po := (Bk_c g (fun k => a (k + 44)) h)) (mc := 0) (ms := 0) hL hl hin (c_X8_log_B l g a (.ref (a 44)) s1 (sa xs i 1) (sa xs i 2) _ hq) ⟨rfl, rfl⟩ ⟨Nat.le_of_ble_eq_true rfl, Nat.le_of_ble_eq_true rfl⟩ rfl hfm ⟨Nat.le_trans (Nat.add_le_add_left (Nat.le_of_ble_eq_true rfl) _) hcs.1, Nat.le_trans (Nat.add_le_add_left (Nat.le_of_ble_eq_true rfl) _) hcs.2⟩ hP hD hS (fun x H1 locs1 hP hD hS => W.widen (Nat.add_le_add_left (Nat.le_of_ble_eq_true rfl) _) (Nat.add_le_add_left (Nat.le_of_ble_eq_true rfl) _) (next a H1 locs1 rfl hP hD hS))
abbrev fc_flips (cs : CS) (a1 a2 : Int32) : Option (Int32 × CS) := match cs with
  | .inl s => (f_X8_flips_N s a1 a2).map fun q => (q.1, csN q.2)
  | .inr (.inl s) => (f_X8_flips_B s a1 a2).map fun q => (q.1, csB q.2)
  | .inr (.inr (s, h)) => (f_X8_flips_B s a1 a2).map fun q => (q.1, csS q.2 h)
set_option maxHeartbeats 1000000 in
theorem ld_flips {a : Nat → Nat} {cs cs' : CS} {r : Int32} {sm sm' : MoT} {dv : Nat → Int64} (hL : LE p c meth s m g b L xs) (hl : LV ls b (a 0) (am 0) d i) (hin : LI i L)
    (hfc : fc_flips cs (sa xs i 1) (sa xs i 2) = some (r, cs')) (hfm : f_X9_flips sm (sa xs i 1) (sa xs i 2) = some (r, sm')) (hcs : cells + 25 ≤ 601024 ∧ slots + 6480 ≤ 7293034)
    (hP : gP g (CSw g a cs ++ (CSp g a cs ++ (Mo_c g am sm ++ Lout g d dv))) H) (hD : va_D (lA s) (CSw g a cs ++ (CSp g a cs ++ (Mo_c g am sm ++ Lout g d dv)))) (hS : va_S (lA s) s.heap H locs)
    (next : ∀ (a' : Nat → Nat) (H1 : Heap) (locs1 : List Loc), a' 0 = a 0 → gP g (CSw g a' cs' ++ (CSp g a' cs' ++ (Mo_c g am sm' ++ Lout g d dv))) H1 → va_D (lA s) (CSw g a' cs' ++ (CSp g a' cs' ++ (Mo_c g am sm' ++ Lout g d dv))) → va_S (lA s) s.heap H1 locs1 → W p l e room_1 s m #[Value.ref b] below meth c H1 locs1 (cells + 25) (slots + 6480) Q (F0 m 1571 ls [])) :
    W p l e room_1 s m #[Value.ref b] below meth c H locs cells slots Q (F0 m 883 ls []) := by
  rcases cs with s1 | s1 | ⟨s1, h⟩
  · obtain ⟨q, hq, he⟩ := gmp hfc
    cases he
    exact lo_flips (X := Unit) (po := []) (mc := 0) (ms := 0) hL hl hin (c_X8_flips_N l g a s1 (sa xs i 1) (sa xs i 2) _ hq) ⟨rfl, rfl⟩ ⟨Nat.le_of_ble_eq_true rfl, Nat.le_of_ble_eq_true rfl⟩ rfl hfm ⟨Nat.le_trans (Nat.add_le_add_left (Nat.le_of_ble_eq_true rfl) _) hcs.1, Nat.le_trans (Nat.add_le_add_left (Nat.le_of_ble_eq_true rfl) _) hcs.2⟩ hP hD hS (fun x H1 locs1 hP hD hS => W.widen (Nat.add_le_add_left (Nat.le_of_ble_eq_true rfl) _) (Nat.add_le_add_left (Nat.le_of_ble_eq_true rfl) _) (next a H1 locs1 rfl hP hD hS))
  · obtain ⟨q, hq, he⟩ := gmp hfc
    cases he
    exact lo_flips (X := Unit) (po := []) (mc := 0) (ms := 0) hL hl hin (c_X8_flips_B l g a .null s1 (sa xs i 1) (sa xs i 2) _ hq) ⟨rfl, rfl⟩ ⟨Nat.le_of_ble_eq_true rfl, Nat.le_of_ble_eq_true rfl⟩ rfl hfm ⟨Nat.le_trans (Nat.add_le_add_left (Nat.le_of_ble_eq_true rfl) _) hcs.1, Nat.le_trans (Nat.add_le_add_left (Nat.le_of_ble_eq_true rfl) _) hcs.2⟩ hP hD hS (fun x H1 locs1 hP hD hS => W.widen (Nat.add_le_add_left (Nat.le_of_ble_eq_true rfl) _) (Nat.add_le_add_left (Nat.le_of_ble_eq_true rfl) _) (next a H1 locs1 rfl hP hD hS))
  · obtain ⟨q, hq, he⟩ := gmp hfc
    cases he
    exact lo_flips (X := Unit) (po := (Bk_c g (fun k => a (k + 44)) h)) (mc := 0) (ms := 0) hL hl hin (c_X8_flips_B l g a (.ref (a 44)) s1 (sa xs i 1) (sa xs i 2) _ hq) ⟨rfl, rfl⟩ ⟨Nat.le_of_ble_eq_true rfl, Nat.le_of_ble_eq_true rfl⟩ rfl hfm ⟨Nat.le_trans (Nat.add_le_add_left (Nat.le_of_ble_eq_true rfl) _) hcs.1, Nat.le_trans (Nat.add_le_add_left (Nat.le_of_ble_eq_true rfl) _) hcs.2⟩ hP hD hS (fun x H1 locs1 hP hD hS => W.widen (Nat.add_le_add_left (Nat.le_of_ble_eq_true rfl) _) (Nat.add_le_add_left (Nat.le_of_ble_eq_true rfl) _) (next a H1 locs1 rfl hP hD hS))
abbrev fc_busiest (cs : CS) : Option (Int32 × CS) := match cs with
  | .inl s => (f_X8_busiest_N s).map fun q => (q.1, csN q.2)
  | .inr (.inl s) => (f_X8_busiest_B s).map fun q => (q.1, csB q.2)
  | .inr (.inr (s, h)) => (f_X8_busiest_B s).map fun q => (q.1, csS q.2 h)
set_option maxHeartbeats 1000000 in
theorem ld_busiest {a : Nat → Nat} {cs cs' : CS} {r : Int32} {sm sm' : MoT} {dv : Nat → Int64} (hL : LE p c meth s m g b L xs) (hl : LV ls b (a 0) (am 0) d i) (hin : LI i L)
    (hfc : fc_busiest cs = some (r, cs')) (hfm : f_X9_busiest sm = some (r, sm')) (hcs : cells + 25 ≤ 601024 ∧ slots + 6480 ≤ 7293034)
    (hP : gP g (CSw g a cs ++ (CSp g a cs ++ (Mo_c g am sm ++ Lout g d dv))) H) (hD : va_D (lA s) (CSw g a cs ++ (CSp g a cs ++ (Mo_c g am sm ++ Lout g d dv)))) (hS : va_S (lA s) s.heap H locs)
    (next : ∀ (a' : Nat → Nat) (H1 : Heap) (locs1 : List Loc), a' 0 = a 0 → gP g (CSw g a' cs' ++ (CSp g a' cs' ++ (Mo_c g am sm' ++ Lout g d dv))) H1 → va_D (lA s) (CSw g a' cs' ++ (CSp g a' cs' ++ (Mo_c g am sm' ++ Lout g d dv))) → va_S (lA s) s.heap H1 locs1 → W p l e room_1 s m #[Value.ref b] below meth c H1 locs1 (cells + 25) (slots + 6480) Q (F0 m 1571 ls [])) :
    W p l e room_1 s m #[Value.ref b] below meth c H locs cells slots Q (F0 m 920 ls []) := by
  rcases cs with s1 | s1 | ⟨s1, h⟩
  · obtain ⟨q, hq, he⟩ := gmp hfc
    cases he
    exact lo_busiest (X := Unit) (po := []) (mc := 0) (ms := 0) hL hl hin (c_X8_busiest_N l g a s1 _ hq) ⟨rfl, rfl⟩ ⟨Nat.le_of_ble_eq_true rfl, Nat.le_of_ble_eq_true rfl⟩ rfl hfm ⟨Nat.le_trans (Nat.add_le_add_left (Nat.le_of_ble_eq_true rfl) _) hcs.1, Nat.le_trans (Nat.add_le_add_left (Nat.le_of_ble_eq_true rfl) _) hcs.2⟩ hP hD hS (fun x H1 locs1 hP hD hS => W.widen (Nat.add_le_add_left (Nat.le_of_ble_eq_true rfl) _) (Nat.add_le_add_left (Nat.le_of_ble_eq_true rfl) _) (next a H1 locs1 rfl hP hD hS))
  · obtain ⟨q, hq, he⟩ := gmp hfc
    cases he
    exact lo_busiest (X := Unit) (po := []) (mc := 0) (ms := 0) hL hl hin (c_X8_busiest_B l g a .null s1 _ hq) ⟨rfl, rfl⟩ ⟨Nat.le_of_ble_eq_true rfl, Nat.le_of_ble_eq_true rfl⟩ rfl hfm ⟨Nat.le_trans (Nat.add_le_add_left (Nat.le_of_ble_eq_true rfl) _) hcs.1, Nat.le_trans (Nat.add_le_add_left (Nat.le_of_ble_eq_true rfl) _) hcs.2⟩ hP hD hS (fun x H1 locs1 hP hD hS => W.widen (Nat.add_le_add_left (Nat.le_of_ble_eq_true rfl) _) (Nat.add_le_add_left (Nat.le_of_ble_eq_true rfl) _) (next a H1 locs1 rfl hP hD hS))
  · obtain ⟨q, hq, he⟩ := gmp hfc
    cases he
    exact lo_busiest (X := Unit) (po := (Bk_c g (fun k => a (k + 44)) h)) (mc := 0) (ms := 0) hL hl hin (c_X8_busiest_B l g a (.ref (a 44)) s1 _ hq) ⟨rfl, rfl⟩ ⟨Nat.le_of_ble_eq_true rfl, Nat.le_of_ble_eq_true rfl⟩ rfl hfm ⟨Nat.le_trans (Nat.add_le_add_left (Nat.le_of_ble_eq_true rfl) _) hcs.1, Nat.le_trans (Nat.add_le_add_left (Nat.le_of_ble_eq_true rfl) _) hcs.2⟩ hP hD hS (fun x H1 locs1 hP hD hS => W.widen (Nat.add_le_add_left (Nat.le_of_ble_eq_true rfl) _) (Nat.add_le_add_left (Nat.le_of_ble_eq_true rfl) _) (next a H1 locs1 rfl hP hD hS))
abbrev fc_dearest (cs : CS) : Option (Int32 × CS) := match cs with
  | .inl s => (f_X8_dearest_N s).map fun q => (q.1, csN q.2)
  | .inr (.inl s) => (f_X8_dearest_B s).map fun q => (q.1, csB q.2)
  | .inr (.inr (s, h)) => (f_X8_dearest_B s).map fun q => (q.1, csS q.2 h)
set_option maxHeartbeats 1000000 in
theorem ld_dearest {a : Nat → Nat} {cs cs' : CS} {r : Int32} {sm sm' : MoT} {dv : Nat → Int64} (hL : LE p c meth s m g b L xs) (hl : LV ls b (a 0) (am 0) d i) (hin : LI i L)
    (hfc : fc_dearest cs = some (r, cs')) (hfm : f_X9_dearest sm = some (r, sm')) (hcs : cells + 25 ≤ 601024 ∧ slots + 6480 ≤ 7293034)
    (hP : gP g (CSw g a cs ++ (CSp g a cs ++ (Mo_c g am sm ++ Lout g d dv))) H) (hD : va_D (lA s) (CSw g a cs ++ (CSp g a cs ++ (Mo_c g am sm ++ Lout g d dv)))) (hS : va_S (lA s) s.heap H locs)
    (next : ∀ (a' : Nat → Nat) (H1 : Heap) (locs1 : List Loc), a' 0 = a 0 → gP g (CSw g a' cs' ++ (CSp g a' cs' ++ (Mo_c g am sm' ++ Lout g d dv))) H1 → va_D (lA s) (CSw g a' cs' ++ (CSp g a' cs' ++ (Mo_c g am sm' ++ Lout g d dv))) → va_S (lA s) s.heap H1 locs1 → W p l e room_1 s m #[Value.ref b] below meth c H1 locs1 (cells + 25) (slots + 6480) Q (F0 m 1571 ls [])) :
    W p l e room_1 s m #[Value.ref b] below meth c H locs cells slots Q (F0 m 933 ls []) := by
  rcases cs with s1 | s1 | ⟨s1, h⟩
  · obtain ⟨q, hq, he⟩ := gmp hfc
    cases he
    exact lo_dearest (X := Unit) (po := []) (mc := 0) (ms := 0) hL hl hin (c_X8_dearest_N l g a s1 _ hq) ⟨rfl, rfl⟩ ⟨Nat.le_of_ble_eq_true rfl, Nat.le_of_ble_eq_true rfl⟩ rfl hfm ⟨Nat.le_trans (Nat.add_le_add_left (Nat.le_of_ble_eq_true rfl) _) hcs.1, Nat.le_trans (Nat.add_le_add_left (Nat.le_of_ble_eq_true rfl) _) hcs.2⟩ hP hD hS (fun x H1 locs1 hP hD hS => W.widen (Nat.add_le_add_left (Nat.le_of_ble_eq_true rfl) _) (Nat.add_le_add_left (Nat.le_of_ble_eq_true rfl) _) (next a H1 locs1 rfl hP hD hS))
  · obtain ⟨q, hq, he⟩ := gmp hfc
    cases he
    exact lo_dearest (X := Unit) (po := []) (mc := 0) (ms := 0) hL hl hin (c_X8_dearest_B l g a .null s1 _ hq) ⟨rfl, rfl⟩ ⟨Nat.le_of_ble_eq_true rfl, Nat.le_of_ble_eq_true rfl⟩ rfl hfm ⟨Nat.le_trans (Nat.add_le_add_left (Nat.le_of_ble_eq_true rfl) _) hcs.1, Nat.le_trans (Nat.add_le_add_left (Nat.le_of_ble_eq_true rfl) _) hcs.2⟩ hP hD hS (fun x H1 locs1 hP hD hS => W.widen (Nat.add_le_add_left (Nat.le_of_ble_eq_true rfl) _) (Nat.add_le_add_left (Nat.le_of_ble_eq_true rfl) _) (next a H1 locs1 rfl hP hD hS))
  · obtain ⟨q, hq, he⟩ := gmp hfc
    cases he
    exact lo_dearest (X := Unit) (po := (Bk_c g (fun k => a (k + 44)) h)) (mc := 0) (ms := 0) hL hl hin (c_X8_dearest_B l g a (.ref (a 44)) s1 _ hq) ⟨rfl, rfl⟩ ⟨Nat.le_of_ble_eq_true rfl, Nat.le_of_ble_eq_true rfl⟩ rfl hfm ⟨Nat.le_trans (Nat.add_le_add_left (Nat.le_of_ble_eq_true rfl) _) hcs.1, Nat.le_trans (Nat.add_le_add_left (Nat.le_of_ble_eq_true rfl) _) hcs.2⟩ hP hD hS (fun x H1 locs1 hP hD hS => W.widen (Nat.add_le_add_left (Nat.le_of_ble_eq_true rfl) _) (Nat.add_le_add_left (Nat.le_of_ble_eq_true rfl) _) (next a H1 locs1 rfl hP hD hS))
abbrev fc_begin (cs : CS) (a1 : Int32) : Option (Int32 × CS) := match cs with
  | .inl s => (f_X8_begin_N s a1).map fun q => (q.1, csN q.2)
  | .inr (.inl s) => (f_X8_begin_B s a1).map fun q => (q.1, csB q.2)
  | .inr (.inr (s, h)) => (f_X8_begin_B s a1).map fun q => (q.1, csS q.2 h)
set_option maxHeartbeats 1000000 in
theorem ld_begin {a : Nat → Nat} {cs cs' : CS} {r : Int32} {sm sm' : MoT} {dv : Nat → Int64} (hL : LE p c meth s m g b L xs) (hl : LV ls b (a 0) (am 0) d i) (hin : LI i L)
    (hfc : fc_begin cs (sa xs i 1) = some (r, cs')) (hfm : f_X9_begin sm (sa xs i 1) = some (r, sm')) (hcs : cells + 25 ≤ 601024 ∧ slots + 6480 ≤ 7293034)
    (hP : gP g (CSw g a cs ++ (CSp g a cs ++ (Mo_c g am sm ++ Lout g d dv))) H) (hD : va_D (lA s) (CSw g a cs ++ (CSp g a cs ++ (Mo_c g am sm ++ Lout g d dv)))) (hS : va_S (lA s) s.heap H locs)
    (next : ∀ (a' : Nat → Nat) (H1 : Heap) (locs1 : List Loc), a' 0 = a 0 → gP g (CSw g a' cs' ++ (CSp g a' cs' ++ (Mo_c g am sm' ++ Lout g d dv))) H1 → va_D (lA s) (CSw g a' cs' ++ (CSp g a' cs' ++ (Mo_c g am sm' ++ Lout g d dv))) → va_S (lA s) s.heap H1 locs1 → W p l e room_1 s m #[Value.ref b] below meth c H1 locs1 (cells + 25) (slots + 6480) Q (F0 m 1571 ls [])) :
    W p l e room_1 s m #[Value.ref b] below meth c H locs cells slots Q (F0 m 946 ls []) := by
  rcases cs with s1 | s1 | ⟨s1, h⟩
  · obtain ⟨q, hq, he⟩ := gmp hfc
    cases he
    exact lo_begin (X := Unit) (po := []) (mc := 0) (ms := 0) hL hl hin (c_X8_begin_N l g a s1 (sa xs i 1) _ hq) ⟨rfl, rfl⟩ ⟨Nat.le_of_ble_eq_true rfl, Nat.le_of_ble_eq_true rfl⟩ rfl hfm ⟨Nat.le_trans (Nat.add_le_add_left (Nat.le_of_ble_eq_true rfl) _) hcs.1, Nat.le_trans (Nat.add_le_add_left (Nat.le_of_ble_eq_true rfl) _) hcs.2⟩ hP hD hS (fun x H1 locs1 hP hD hS => W.widen (Nat.add_le_add_left (Nat.le_of_ble_eq_true rfl) _) (Nat.add_le_add_left (Nat.le_of_ble_eq_true rfl) _) (next a H1 locs1 rfl hP hD hS))
  · obtain ⟨q, hq, he⟩ := gmp hfc
    cases he
    exact lo_begin (X := Unit) (po := []) (mc := 0) (ms := 0) hL hl hin (c_X8_begin_B l g a .null s1 (sa xs i 1) _ hq) ⟨rfl, rfl⟩ ⟨Nat.le_of_ble_eq_true rfl, Nat.le_of_ble_eq_true rfl⟩ rfl hfm ⟨Nat.le_trans (Nat.add_le_add_left (Nat.le_of_ble_eq_true rfl) _) hcs.1, Nat.le_trans (Nat.add_le_add_left (Nat.le_of_ble_eq_true rfl) _) hcs.2⟩ hP hD hS (fun x H1 locs1 hP hD hS => W.widen (Nat.add_le_add_left (Nat.le_of_ble_eq_true rfl) _) (Nat.add_le_add_left (Nat.le_of_ble_eq_true rfl) _) (next a H1 locs1 rfl hP hD hS))
  · obtain ⟨q, hq, he⟩ := gmp hfc
    cases he
    exact lo_begin (X := Unit) (po := (Bk_c g (fun k => a (k + 44)) h)) (mc := 0) (ms := 0) hL hl hin (c_X8_begin_B l g a (.ref (a 44)) s1 (sa xs i 1) _ hq) ⟨rfl, rfl⟩ ⟨Nat.le_of_ble_eq_true rfl, Nat.le_of_ble_eq_true rfl⟩ rfl hfm ⟨Nat.le_trans (Nat.add_le_add_left (Nat.le_of_ble_eq_true rfl) _) hcs.1, Nat.le_trans (Nat.add_le_add_left (Nat.le_of_ble_eq_true rfl) _) hcs.2⟩ hP hD hS (fun x H1 locs1 hP hD hS => W.widen (Nat.add_le_add_left (Nat.le_of_ble_eq_true rfl) _) (Nat.add_le_add_left (Nat.le_of_ble_eq_true rfl) _) (next a H1 locs1 rfl hP hD hS))
abbrev fc_pull (cs : CS) (a1 : Int32) : Option (Int32 × CS) := match cs with
  | .inl s => (f_X8_pull_N s a1).map fun q => (q.1, csN q.2)
  | .inr (.inl s) => (f_X8_pull_B s a1).map fun q => (q.1, csB q.2)
  | .inr (.inr (s, h)) => (f_X8_pull_B s a1).map fun q => (q.1, csS q.2 h)
set_option maxHeartbeats 1000000 in
theorem ld_pull {a : Nat → Nat} {cs cs' : CS} {r : Int32} {sm sm' : MoT} {dv : Nat → Int64} (hL : LE p c meth s m g b L xs) (hl : LV ls b (a 0) (am 0) d i) (hin : LI i L)
    (hfc : fc_pull cs (sa xs i 1) = some (r, cs')) (hfm : f_X9_pull sm (sa xs i 1) = some (r, sm')) (hcs : cells + 25 ≤ 601024 ∧ slots + 6480 ≤ 7293034)
    (hP : gP g (CSw g a cs ++ (CSp g a cs ++ (Mo_c g am sm ++ Lout g d dv))) H) (hD : va_D (lA s) (CSw g a cs ++ (CSp g a cs ++ (Mo_c g am sm ++ Lout g d dv)))) (hS : va_S (lA s) s.heap H locs)
    (next : ∀ (a' : Nat → Nat) (H1 : Heap) (locs1 : List Loc), a' 0 = a 0 → gP g (CSw g a' cs' ++ (CSp g a' cs' ++ (Mo_c g am sm' ++ Lout g d dv))) H1 → va_D (lA s) (CSw g a' cs' ++ (CSp g a' cs' ++ (Mo_c g am sm' ++ Lout g d dv))) → va_S (lA s) s.heap H1 locs1 → W p l e room_1 s m #[Value.ref b] below meth c H1 locs1 (cells + 25) (slots + 6480) Q (F0 m 1571 ls [])) :
    W p l e room_1 s m #[Value.ref b] below meth c H locs cells slots Q (F0 m 971 ls []) := by
  rcases cs with s1 | s1 | ⟨s1, h⟩
  · obtain ⟨q, hq, he⟩ := gmp hfc
    cases he
    exact lo_pull (X := Unit) (po := []) (mc := 0) (ms := 0) hL hl hin (c_X8_pull_N l g a s1 (sa xs i 1) _ hq) ⟨rfl, rfl⟩ ⟨Nat.le_of_ble_eq_true rfl, Nat.le_of_ble_eq_true rfl⟩ rfl hfm ⟨Nat.le_trans (Nat.add_le_add_left (Nat.le_of_ble_eq_true rfl) _) hcs.1, Nat.le_trans (Nat.add_le_add_left (Nat.le_of_ble_eq_true rfl) _) hcs.2⟩ hP hD hS (fun x H1 locs1 hP hD hS => W.widen (Nat.add_le_add_left (Nat.le_of_ble_eq_true rfl) _) (Nat.add_le_add_left (Nat.le_of_ble_eq_true rfl) _) (next a H1 locs1 rfl hP hD hS))
  · obtain ⟨q, hq, he⟩ := gmp hfc
    cases he
    exact lo_pull (X := Unit) (po := []) (mc := 0) (ms := 0) hL hl hin (c_X8_pull_B l g a .null s1 (sa xs i 1) _ hq) ⟨rfl, rfl⟩ ⟨Nat.le_of_ble_eq_true rfl, Nat.le_of_ble_eq_true rfl⟩ rfl hfm ⟨Nat.le_trans (Nat.add_le_add_left (Nat.le_of_ble_eq_true rfl) _) hcs.1, Nat.le_trans (Nat.add_le_add_left (Nat.le_of_ble_eq_true rfl) _) hcs.2⟩ hP hD hS (fun x H1 locs1 hP hD hS => W.widen (Nat.add_le_add_left (Nat.le_of_ble_eq_true rfl) _) (Nat.add_le_add_left (Nat.le_of_ble_eq_true rfl) _) (next a H1 locs1 rfl hP hD hS))
  · obtain ⟨q, hq, he⟩ := gmp hfc
    cases he
    exact lo_pull (X := Unit) (po := (Bk_c g (fun k => a (k + 44)) h)) (mc := 0) (ms := 0) hL hl hin (c_X8_pull_B l g a (.ref (a 44)) s1 (sa xs i 1) _ hq) ⟨rfl, rfl⟩ ⟨Nat.le_of_ble_eq_true rfl, Nat.le_of_ble_eq_true rfl⟩ rfl hfm ⟨Nat.le_trans (Nat.add_le_add_left (Nat.le_of_ble_eq_true rfl) _) hcs.1, Nat.le_trans (Nat.add_le_add_left (Nat.le_of_ble_eq_true rfl) _) hcs.2⟩ hP hD hS (fun x H1 locs1 hP hD hS => W.widen (Nat.add_le_add_left (Nat.le_of_ble_eq_true rfl) _) (Nat.add_le_add_left (Nat.le_of_ble_eq_true rfl) _) (next a H1 locs1 rfl hP hD hS))
abbrev fc_pulled (cs : CS) (a1 a2 a3 : Int32) : Option (Int32 × CS) := match cs with
  | .inl s => (f_X8_pulled_N s a1 a2 a3).map fun q => (q.1, csN q.2)
  | .inr (.inl s) => (f_X8_pulled_B s a1 a2 a3).map fun q => (q.1, csB q.2)
  | .inr (.inr (s, h)) => (f_X8_pulled_B s a1 a2 a3).map fun q => (q.1, csS q.2 h)
set_option maxHeartbeats 1000000 in
theorem ld_pulled {a : Nat → Nat} {cs cs' : CS} {r : Int32} {sm sm' : MoT} {dv : Nat → Int64} (hL : LE p c meth s m g b L xs) (hl : LV ls b (a 0) (am 0) d i) (hin : LI i L)
    (hfc : fc_pulled cs (sa xs i 1) (sa xs i 2) (sa xs i 3) = some (r, cs')) (hfm : f_X9_pulled sm (sa xs i 1) (sa xs i 2) (sa xs i 3) = some (r, sm')) (hcs : cells + 25 ≤ 601024 ∧ slots + 6480 ≤ 7293034)
    (hP : gP g (CSw g a cs ++ (CSp g a cs ++ (Mo_c g am sm ++ Lout g d dv))) H) (hD : va_D (lA s) (CSw g a cs ++ (CSp g a cs ++ (Mo_c g am sm ++ Lout g d dv)))) (hS : va_S (lA s) s.heap H locs)
    (next : ∀ (a' : Nat → Nat) (H1 : Heap) (locs1 : List Loc), a' 0 = a 0 → gP g (CSw g a' cs' ++ (CSp g a' cs' ++ (Mo_c g am sm' ++ Lout g d dv))) H1 → va_D (lA s) (CSw g a' cs' ++ (CSp g a' cs' ++ (Mo_c g am sm' ++ Lout g d dv))) → va_S (lA s) s.heap H1 locs1 → W p l e room_1 s m #[Value.ref b] below meth c H1 locs1 (cells + 25) (slots + 6480) Q (F0 m 1571 ls [])) :
    W p l e room_1 s m #[Value.ref b] below meth c H locs cells slots Q (F0 m 996 ls []) := by
  rcases cs with s1 | s1 | ⟨s1, h⟩
  · obtain ⟨q, hq, he⟩ := gmp hfc
    cases he
    exact lo_pulled (X := Unit) (po := []) (mc := 0) (ms := 0) hL hl hin (c_X8_pulled_N l g a s1 (sa xs i 1) (sa xs i 2) (sa xs i 3) _ hq) ⟨rfl, rfl⟩ ⟨Nat.le_of_ble_eq_true rfl, Nat.le_of_ble_eq_true rfl⟩ rfl hfm ⟨Nat.le_trans (Nat.add_le_add_left (Nat.le_of_ble_eq_true rfl) _) hcs.1, Nat.le_trans (Nat.add_le_add_left (Nat.le_of_ble_eq_true rfl) _) hcs.2⟩ hP hD hS (fun x H1 locs1 hP hD hS => W.widen (Nat.add_le_add_left (Nat.le_of_ble_eq_true rfl) _) (Nat.add_le_add_left (Nat.le_of_ble_eq_true rfl) _) (next a H1 locs1 rfl hP hD hS))
  · obtain ⟨q, hq, he⟩ := gmp hfc
    cases he
    exact lo_pulled (X := Unit) (po := []) (mc := 0) (ms := 0) hL hl hin (c_X8_pulled_B l g a .null s1 (sa xs i 1) (sa xs i 2) (sa xs i 3) _ hq) ⟨rfl, rfl⟩ ⟨Nat.le_of_ble_eq_true rfl, Nat.le_of_ble_eq_true rfl⟩ rfl hfm ⟨Nat.le_trans (Nat.add_le_add_left (Nat.le_of_ble_eq_true rfl) _) hcs.1, Nat.le_trans (Nat.add_le_add_left (Nat.le_of_ble_eq_true rfl) _) hcs.2⟩ hP hD hS (fun x H1 locs1 hP hD hS => W.widen (Nat.add_le_add_left (Nat.le_of_ble_eq_true rfl) _) (Nat.add_le_add_left (Nat.le_of_ble_eq_true rfl) _) (next a H1 locs1 rfl hP hD hS))
  · obtain ⟨q, hq, he⟩ := gmp hfc
    cases he
    exact lo_pulled (X := Unit) (po := (Bk_c g (fun k => a (k + 44)) h)) (mc := 0) (ms := 0) hL hl hin (c_X8_pulled_B l g a (.ref (a 44)) s1 (sa xs i 1) (sa xs i 2) (sa xs i 3) _ hq) ⟨rfl, rfl⟩ ⟨Nat.le_of_ble_eq_true rfl, Nat.le_of_ble_eq_true rfl⟩ rfl hfm ⟨Nat.le_trans (Nat.add_le_add_left (Nat.le_of_ble_eq_true rfl) _) hcs.1, Nat.le_trans (Nat.add_le_add_left (Nat.le_of_ble_eq_true rfl) _) hcs.2⟩ hP hD hS (fun x H1 locs1 hP hD hS => W.widen (Nat.add_le_add_left (Nat.le_of_ble_eq_true rfl) _) (Nat.add_le_add_left (Nat.le_of_ble_eq_true rfl) _) (next a H1 locs1 rfl hP hD hS))
abbrev fc_held (cs : CS) (a1 a2 a3 a4 : Int32) : Option (Int32 × CS) := match cs with
  | .inl s => (f_X8_held_N s a1 a2 a3 a4).map fun q => (q.1, csN q.2)
  | .inr (.inl s) => (f_X8_held_B s a1 a2 a3 a4).map fun q => (q.1, csB q.2)
  | .inr (.inr (s, h)) => (f_X8_held_B s a1 a2 a3 a4).map fun q => (q.1, csS q.2 h)
set_option maxHeartbeats 1000000 in
theorem ld_held {a : Nat → Nat} {cs cs' : CS} {r : Int32} {sm sm' : MoT} {dv : Nat → Int64} (hL : LE p c meth s m g b L xs) (hl : LV ls b (a 0) (am 0) d i) (hin : LI i L)
    (hfc : fc_held cs (sa xs i 1) (sa xs i 2) (sa xs i 3) (sa xs i 4) = some (r, cs')) (hfm : f_X9_held sm (sa xs i 1) (sa xs i 2) (sa xs i 3) (sa xs i 4) = some (r, sm')) (hcs : cells + 25 ≤ 601024 ∧ slots + 6480 ≤ 7293034)
    (hP : gP g (CSw g a cs ++ (CSp g a cs ++ (Mo_c g am sm ++ Lout g d dv))) H) (hD : va_D (lA s) (CSw g a cs ++ (CSp g a cs ++ (Mo_c g am sm ++ Lout g d dv)))) (hS : va_S (lA s) s.heap H locs)
    (next : ∀ (a' : Nat → Nat) (H1 : Heap) (locs1 : List Loc), a' 0 = a 0 → gP g (CSw g a' cs' ++ (CSp g a' cs' ++ (Mo_c g am sm' ++ Lout g d dv))) H1 → va_D (lA s) (CSw g a' cs' ++ (CSp g a' cs' ++ (Mo_c g am sm' ++ Lout g d dv))) → va_S (lA s) s.heap H1 locs1 → W p l e room_1 s m #[Value.ref b] below meth c H1 locs1 (cells + 25) (slots + 6480) Q (F0 m 1571 ls [])) :
    W p l e room_1 s m #[Value.ref b] below meth c H locs cells slots Q (F0 m 1045 ls []) := by
  rcases cs with s1 | s1 | ⟨s1, h⟩
  · obtain ⟨q, hq, he⟩ := gmp hfc
    cases he
    exact lo_held (X := Unit) (po := []) (mc := 0) (ms := 0) hL hl hin (c_X8_held_N l g a s1 (sa xs i 1) (sa xs i 2) (sa xs i 3) (sa xs i 4) _ hq) ⟨rfl, rfl⟩ ⟨Nat.le_of_ble_eq_true rfl, Nat.le_of_ble_eq_true rfl⟩ rfl hfm ⟨Nat.le_trans (Nat.add_le_add_left (Nat.le_of_ble_eq_true rfl) _) hcs.1, Nat.le_trans (Nat.add_le_add_left (Nat.le_of_ble_eq_true rfl) _) hcs.2⟩ hP hD hS (fun x H1 locs1 hP hD hS => W.widen (Nat.add_le_add_left (Nat.le_of_ble_eq_true rfl) _) (Nat.add_le_add_left (Nat.le_of_ble_eq_true rfl) _) (next a H1 locs1 rfl hP hD hS))
  · obtain ⟨q, hq, he⟩ := gmp hfc
    cases he
    exact lo_held (X := Unit) (po := []) (mc := 0) (ms := 0) hL hl hin (c_X8_held_B l g a .null s1 (sa xs i 1) (sa xs i 2) (sa xs i 3) (sa xs i 4) _ hq) ⟨rfl, rfl⟩ ⟨Nat.le_of_ble_eq_true rfl, Nat.le_of_ble_eq_true rfl⟩ rfl hfm ⟨Nat.le_trans (Nat.add_le_add_left (Nat.le_of_ble_eq_true rfl) _) hcs.1, Nat.le_trans (Nat.add_le_add_left (Nat.le_of_ble_eq_true rfl) _) hcs.2⟩ hP hD hS (fun x H1 locs1 hP hD hS => W.widen (Nat.add_le_add_left (Nat.le_of_ble_eq_true rfl) _) (Nat.add_le_add_left (Nat.le_of_ble_eq_true rfl) _) (next a H1 locs1 rfl hP hD hS))
  · obtain ⟨q, hq, he⟩ := gmp hfc
    cases he
    exact lo_held (X := Unit) (po := (Bk_c g (fun k => a (k + 44)) h)) (mc := 0) (ms := 0) hL hl hin (c_X8_held_B l g a (.ref (a 44)) s1 (sa xs i 1) (sa xs i 2) (sa xs i 3) (sa xs i 4) _ hq) ⟨rfl, rfl⟩ ⟨Nat.le_of_ble_eq_true rfl, Nat.le_of_ble_eq_true rfl⟩ rfl hfm ⟨Nat.le_trans (Nat.add_le_add_left (Nat.le_of_ble_eq_true rfl) _) hcs.1, Nat.le_trans (Nat.add_le_add_left (Nat.le_of_ble_eq_true rfl) _) hcs.2⟩ hP hD hS (fun x H1 locs1 hP hD hS => W.widen (Nat.add_le_add_left (Nat.le_of_ble_eq_true rfl) _) (Nat.add_le_add_left (Nat.le_of_ble_eq_true rfl) _) (next a H1 locs1 rfl hP hD hS))
abbrev fc_lag (cs : CS) (a1 a2 : Int32) : Option (Int32 × CS) := match cs with
  | .inl s => (f_X8_lag_N s a1 a2).map fun q => (q.1, csN q.2)
  | .inr (.inl s) => (f_X8_lag_B s a1 a2).map fun q => (q.1, csB q.2)
  | .inr (.inr (s, h)) => (f_X8_lag_B s a1 a2).map fun q => (q.1, csS q.2 h)
set_option maxHeartbeats 1000000 in
theorem ld_lag {a : Nat → Nat} {cs cs' : CS} {r : Int32} {sm sm' : MoT} {dv : Nat → Int64} (hL : LE p c meth s m g b L xs) (hl : LV ls b (a 0) (am 0) d i) (hin : LI i L)
    (hfc : fc_lag cs (sa xs i 1) (sa xs i 2) = some (r, cs')) (hfm : f_X9_lag sm (sa xs i 1) (sa xs i 2) = some (r, sm')) (hcs : cells + 25 ≤ 601024 ∧ slots + 6480 ≤ 7293034)
    (hP : gP g (CSw g a cs ++ (CSp g a cs ++ (Mo_c g am sm ++ Lout g d dv))) H) (hD : va_D (lA s) (CSw g a cs ++ (CSp g a cs ++ (Mo_c g am sm ++ Lout g d dv)))) (hS : va_S (lA s) s.heap H locs)
    (next : ∀ (a' : Nat → Nat) (H1 : Heap) (locs1 : List Loc), a' 0 = a 0 → gP g (CSw g a' cs' ++ (CSp g a' cs' ++ (Mo_c g am sm' ++ Lout g d dv))) H1 → va_D (lA s) (CSw g a' cs' ++ (CSp g a' cs' ++ (Mo_c g am sm' ++ Lout g d dv))) → va_S (lA s) s.heap H1 locs1 → W p l e room_1 s m #[Value.ref b] below meth c H1 locs1 (cells + 25) (slots + 6480) Q (F0 m 1571 ls [])) :
    W p l e room_1 s m #[Value.ref b] below meth c H locs cells slots Q (F0 m 1106 ls []) := by
  rcases cs with s1 | s1 | ⟨s1, h⟩
  · obtain ⟨q, hq, he⟩ := gmp hfc
    cases he
    exact lo_lag (X := Unit) (po := []) (mc := 0) (ms := 0) hL hl hin (c_X8_lag_N l g a s1 (sa xs i 1) (sa xs i 2) _ hq) ⟨rfl, rfl⟩ ⟨Nat.le_of_ble_eq_true rfl, Nat.le_of_ble_eq_true rfl⟩ rfl hfm ⟨Nat.le_trans (Nat.add_le_add_left (Nat.le_of_ble_eq_true rfl) _) hcs.1, Nat.le_trans (Nat.add_le_add_left (Nat.le_of_ble_eq_true rfl) _) hcs.2⟩ hP hD hS (fun x H1 locs1 hP hD hS => W.widen (Nat.add_le_add_left (Nat.le_of_ble_eq_true rfl) _) (Nat.add_le_add_left (Nat.le_of_ble_eq_true rfl) _) (next a H1 locs1 rfl hP hD hS))
  · obtain ⟨q, hq, he⟩ := gmp hfc
    cases he
    exact lo_lag (X := Unit) (po := []) (mc := 0) (ms := 0) hL hl hin (c_X8_lag_B l g a .null s1 (sa xs i 1) (sa xs i 2) _ hq) ⟨rfl, rfl⟩ ⟨Nat.le_of_ble_eq_true rfl, Nat.le_of_ble_eq_true rfl⟩ rfl hfm ⟨Nat.le_trans (Nat.add_le_add_left (Nat.le_of_ble_eq_true rfl) _) hcs.1, Nat.le_trans (Nat.add_le_add_left (Nat.le_of_ble_eq_true rfl) _) hcs.2⟩ hP hD hS (fun x H1 locs1 hP hD hS => W.widen (Nat.add_le_add_left (Nat.le_of_ble_eq_true rfl) _) (Nat.add_le_add_left (Nat.le_of_ble_eq_true rfl) _) (next a H1 locs1 rfl hP hD hS))
  · obtain ⟨q, hq, he⟩ := gmp hfc
    cases he
    exact lo_lag (X := Unit) (po := (Bk_c g (fun k => a (k + 44)) h)) (mc := 0) (ms := 0) hL hl hin (c_X8_lag_B l g a (.ref (a 44)) s1 (sa xs i 1) (sa xs i 2) _ hq) ⟨rfl, rfl⟩ ⟨Nat.le_of_ble_eq_true rfl, Nat.le_of_ble_eq_true rfl⟩ rfl hfm ⟨Nat.le_trans (Nat.add_le_add_left (Nat.le_of_ble_eq_true rfl) _) hcs.1, Nat.le_trans (Nat.add_le_add_left (Nat.le_of_ble_eq_true rfl) _) hcs.2⟩ hP hD hS (fun x H1 locs1 hP hD hS => W.widen (Nat.add_le_add_left (Nat.le_of_ble_eq_true rfl) _) (Nat.add_le_add_left (Nat.le_of_ble_eq_true rfl) _) (next a H1 locs1 rfl hP hD hS))
abbrev fc_would (cs : CS) (a1 a2 a3 a4 a5 : Int32) : Option (Int32 × CS) := match cs with
  | .inl s => (f_X8_would_N s a1 a2 a3 a4 a5).map fun q => (q.1, csN q.2)
  | .inr (.inl s) => (f_X8_would_B s a1 a2 a3 a4 a5).map fun q => (q.1, csB q.2)
  | .inr (.inr (s, h)) => (f_X8_would_B s a1 a2 a3 a4 a5).map fun q => (q.1, csS q.2 h)
set_option maxHeartbeats 1000000 in
theorem ld_would {a : Nat → Nat} {cs cs' : CS} {r : Int32} {sm sm' : MoT} {dv : Nat → Int64} (hL : LE p c meth s m g b L xs) (hl : LV ls b (a 0) (am 0) d i) (hin : LI i L)
    (hfc : fc_would cs (sa xs i 1) (sa xs i 2) (sa xs i 3) (sa xs i 4) (sa xs i 5) = some (r, cs')) (hfm : f_X9_would sm (sa xs i 1) (sa xs i 2) (sa xs i 3) (sa xs i 4) (sa xs i 5) = some (r, sm')) (hcs : cells + 25 ≤ 601024 ∧ slots + 6480 ≤ 7293034)
    (hP : gP g (CSw g a cs ++ (CSp g a cs ++ (Mo_c g am sm ++ Lout g d dv))) H) (hD : va_D (lA s) (CSw g a cs ++ (CSp g a cs ++ (Mo_c g am sm ++ Lout g d dv)))) (hS : va_S (lA s) s.heap H locs)
    (next : ∀ (a' : Nat → Nat) (H1 : Heap) (locs1 : List Loc), a' 0 = a 0 → gP g (CSw g a' cs' ++ (CSp g a' cs' ++ (Mo_c g am sm' ++ Lout g d dv))) H1 → va_D (lA s) (CSw g a' cs' ++ (CSp g a' cs' ++ (Mo_c g am sm' ++ Lout g d dv))) → va_S (lA s) s.heap H1 locs1 → W p l e room_1 s m #[Value.ref b] below meth c H1 locs1 (cells + 25) (slots + 6480) Q (F0 m 1571 ls [])) :
    W p l e room_1 s m #[Value.ref b] below meth c H locs cells slots Q (F0 m 1143 ls []) := by
  rcases cs with s1 | s1 | ⟨s1, h⟩
  · obtain ⟨q, hq, he⟩ := gmp hfc
    cases he
    exact lo_would (X := Unit) (po := []) (mc := 0) (ms := 0) hL hl hin (c_X8_would_N l g a s1 (sa xs i 1) (sa xs i 2) (sa xs i 3) (sa xs i 4) (sa xs i 5) _ hq) ⟨rfl, rfl⟩ ⟨Nat.le_of_ble_eq_true rfl, Nat.le_of_ble_eq_true rfl⟩ rfl hfm ⟨Nat.le_trans (Nat.add_le_add_left (Nat.le_of_ble_eq_true rfl) _) hcs.1, Nat.le_trans (Nat.add_le_add_left (Nat.le_of_ble_eq_true rfl) _) hcs.2⟩ hP hD hS (fun x H1 locs1 hP hD hS => W.widen (Nat.add_le_add_left (Nat.le_of_ble_eq_true rfl) _) (Nat.add_le_add_left (Nat.le_of_ble_eq_true rfl) _) (next a H1 locs1 rfl hP hD hS))
  · obtain ⟨q, hq, he⟩ := gmp hfc
    cases he
    exact lo_would (X := Unit) (po := []) (mc := 0) (ms := 0) hL hl hin (c_X8_would_B l g a .null s1 (sa xs i 1) (sa xs i 2) (sa xs i 3) (sa xs i 4) (sa xs i 5) _ hq) ⟨rfl, rfl⟩ ⟨Nat.le_of_ble_eq_true rfl, Nat.le_of_ble_eq_true rfl⟩ rfl hfm ⟨Nat.le_trans (Nat.add_le_add_left (Nat.le_of_ble_eq_true rfl) _) hcs.1, Nat.le_trans (Nat.add_le_add_left (Nat.le_of_ble_eq_true rfl) _) hcs.2⟩ hP hD hS (fun x H1 locs1 hP hD hS => W.widen (Nat.add_le_add_left (Nat.le_of_ble_eq_true rfl) _) (Nat.add_le_add_left (Nat.le_of_ble_eq_true rfl) _) (next a H1 locs1 rfl hP hD hS))
  · obtain ⟨q, hq, he⟩ := gmp hfc
    cases he
    exact lo_would (X := Unit) (po := (Bk_c g (fun k => a (k + 44)) h)) (mc := 0) (ms := 0) hL hl hin (c_X8_would_B l g a (.ref (a 44)) s1 (sa xs i 1) (sa xs i 2) (sa xs i 3) (sa xs i 4) (sa xs i 5) _ hq) ⟨rfl, rfl⟩ ⟨Nat.le_of_ble_eq_true rfl, Nat.le_of_ble_eq_true rfl⟩ rfl hfm ⟨Nat.le_trans (Nat.add_le_add_left (Nat.le_of_ble_eq_true rfl) _) hcs.1, Nat.le_trans (Nat.add_le_add_left (Nat.le_of_ble_eq_true rfl) _) hcs.2⟩ hP hD hS (fun x H1 locs1 hP hD hS => W.widen (Nat.add_le_add_left (Nat.le_of_ble_eq_true rfl) _) (Nat.add_le_add_left (Nat.le_of_ble_eq_true rfl) _) (next a H1 locs1 rfl hP hD hS))
abbrev fc_nextLapse (cs : CS) : Option (Int32 × CS) := match cs with
  | .inl s => (f_X8_nextLapse_N s).map fun q => (q.1, csN q.2)
  | .inr (.inl s) => (f_X8_nextLapse_B s).map fun q => (q.1, csB q.2)
  | .inr (.inr (s, h)) => (f_X8_nextLapse_B s).map fun q => (q.1, csS q.2 h)
set_option maxHeartbeats 1000000 in
theorem ld_nextLapse {a : Nat → Nat} {cs cs' : CS} {r : Int32} {sm sm' : MoT} {dv : Nat → Int64} (hL : LE p c meth s m g b L xs) (hl : LV ls b (a 0) (am 0) d i) (hin : LI i L)
    (hfc : fc_nextLapse cs = some (r, cs')) (hfm : f_X9_nextLapse sm = some (r, sm')) (hcs : cells + 25 ≤ 601024 ∧ slots + 6480 ≤ 7293034)
    (hP : gP g (CSw g a cs ++ (CSp g a cs ++ (Mo_c g am sm ++ Lout g d dv))) H) (hD : va_D (lA s) (CSw g a cs ++ (CSp g a cs ++ (Mo_c g am sm ++ Lout g d dv)))) (hS : va_S (lA s) s.heap H locs)
    (next : ∀ (a' : Nat → Nat) (H1 : Heap) (locs1 : List Loc), a' 0 = a 0 → gP g (CSw g a' cs' ++ (CSp g a' cs' ++ (Mo_c g am sm' ++ Lout g d dv))) H1 → va_D (lA s) (CSw g a' cs' ++ (CSp g a' cs' ++ (Mo_c g am sm' ++ Lout g d dv))) → va_S (lA s) s.heap H1 locs1 → W p l e room_1 s m #[Value.ref b] below meth c H1 locs1 (cells + 25) (slots + 6480) Q (F0 m 1571 ls [])) :
    W p l e room_1 s m #[Value.ref b] below meth c H locs cells slots Q (F0 m 1216 ls []) := by
  rcases cs with s1 | s1 | ⟨s1, h⟩
  · obtain ⟨q, hq, he⟩ := gmp hfc
    cases he
    exact lo_nextLapse (X := Unit) (po := []) (mc := 0) (ms := 0) hL hl hin (c_X8_nextLapse_N l g a s1 _ hq) ⟨rfl, rfl⟩ ⟨Nat.le_of_ble_eq_true rfl, Nat.le_of_ble_eq_true rfl⟩ rfl hfm ⟨Nat.le_trans (Nat.add_le_add_left (Nat.le_of_ble_eq_true rfl) _) hcs.1, Nat.le_trans (Nat.add_le_add_left (Nat.le_of_ble_eq_true rfl) _) hcs.2⟩ hP hD hS (fun x H1 locs1 hP hD hS => W.widen (Nat.add_le_add_left (Nat.le_of_ble_eq_true rfl) _) (Nat.add_le_add_left (Nat.le_of_ble_eq_true rfl) _) (next a H1 locs1 rfl hP hD hS))
  · obtain ⟨q, hq, he⟩ := gmp hfc
    cases he
    exact lo_nextLapse (X := Unit) (po := []) (mc := 0) (ms := 0) hL hl hin (c_X8_nextLapse_B l g a .null s1 _ hq) ⟨rfl, rfl⟩ ⟨Nat.le_of_ble_eq_true rfl, Nat.le_of_ble_eq_true rfl⟩ rfl hfm ⟨Nat.le_trans (Nat.add_le_add_left (Nat.le_of_ble_eq_true rfl) _) hcs.1, Nat.le_trans (Nat.add_le_add_left (Nat.le_of_ble_eq_true rfl) _) hcs.2⟩ hP hD hS (fun x H1 locs1 hP hD hS => W.widen (Nat.add_le_add_left (Nat.le_of_ble_eq_true rfl) _) (Nat.add_le_add_left (Nat.le_of_ble_eq_true rfl) _) (next a H1 locs1 rfl hP hD hS))
  · obtain ⟨q, hq, he⟩ := gmp hfc
    cases he
    exact lo_nextLapse (X := Unit) (po := (Bk_c g (fun k => a (k + 44)) h)) (mc := 0) (ms := 0) hL hl hin (c_X8_nextLapse_B l g a (.ref (a 44)) s1 _ hq) ⟨rfl, rfl⟩ ⟨Nat.le_of_ble_eq_true rfl, Nat.le_of_ble_eq_true rfl⟩ rfl hfm ⟨Nat.le_trans (Nat.add_le_add_left (Nat.le_of_ble_eq_true rfl) _) hcs.1, Nat.le_trans (Nat.add_le_add_left (Nat.le_of_ble_eq_true rfl) _) hcs.2⟩ hP hD hS (fun x H1 locs1 hP hD hS => W.widen (Nat.add_le_add_left (Nat.le_of_ble_eq_true rfl) _) (Nat.add_le_add_left (Nat.le_of_ble_eq_true rfl) _) (next a H1 locs1 rfl hP hD hS))
abbrev fc_replay (cs : CS) (a1 a2 : Int32) : Option (Int32 × CS) := match cs with
  | .inl s => (f_X8_replay_N s a1 a2).map fun q => (q.1, csN q.2)
  | .inr (.inl s) => (f_X8_replay_B s a1 a2).map fun q => (q.1, csB q.2)
  | .inr (.inr (s, h)) => (f_X8_replay_B s a1 a2).map fun q => (q.1, csS q.2 h)
set_option maxHeartbeats 1000000 in
theorem ld_replay {a : Nat → Nat} {cs cs' : CS} {r : Int32} {sm sm' : MoT} {dv : Nat → Int64} (hL : LE p c meth s m g b L xs) (hl : LV ls b (a 0) (am 0) d i) (hin : LI i L)
    (hfc : fc_replay cs (sa xs i 1) (sa xs i 2) = some (r, cs')) (hfm : f_X9_replay sm (sa xs i 1) (sa xs i 2) = some (r, sm')) (hcs : cells + 25 ≤ 601024 ∧ slots + 6480 ≤ 7293034)
    (hP : gP g (CSw g a cs ++ (CSp g a cs ++ (Mo_c g am sm ++ Lout g d dv))) H) (hD : va_D (lA s) (CSw g a cs ++ (CSp g a cs ++ (Mo_c g am sm ++ Lout g d dv)))) (hS : va_S (lA s) s.heap H locs)
    (next : ∀ (a' : Nat → Nat) (H1 : Heap) (locs1 : List Loc), a' 0 = a 0 → gP g (CSw g a' cs' ++ (CSp g a' cs' ++ (Mo_c g am sm' ++ Lout g d dv))) H1 → va_D (lA s) (CSw g a' cs' ++ (CSp g a' cs' ++ (Mo_c g am sm' ++ Lout g d dv))) → va_S (lA s) s.heap H1 locs1 → W p l e room_1 s m #[Value.ref b] below meth c H1 locs1 (cells + 25) (slots + 6480) Q (F0 m 1571 ls [])) :
    W p l e room_1 s m #[Value.ref b] below meth c H locs cells slots Q (F0 m 1229 ls []) := by
  rcases cs with s1 | s1 | ⟨s1, h⟩
  · obtain ⟨q, hq, he⟩ := gmp hfc
    cases he
    exact lo_replay (X := Unit) (po := []) (mc := 0) (ms := 0) hL hl hin (c_X8_replay_N l g a s1 (sa xs i 1) (sa xs i 2) _ hq) ⟨rfl, rfl⟩ ⟨Nat.le_of_ble_eq_true rfl, Nat.le_of_ble_eq_true rfl⟩ rfl hfm ⟨Nat.le_trans (Nat.add_le_add_left (Nat.le_of_ble_eq_true rfl) _) hcs.1, Nat.le_trans (Nat.add_le_add_left (Nat.le_of_ble_eq_true rfl) _) hcs.2⟩ hP hD hS (fun x H1 locs1 hP hD hS => W.widen (Nat.add_le_add_left (Nat.le_of_ble_eq_true rfl) _) (Nat.add_le_add_left (Nat.le_of_ble_eq_true rfl) _) (next a H1 locs1 rfl hP hD hS))
  · obtain ⟨q, hq, he⟩ := gmp hfc
    cases he
    exact lo_replay (X := Unit) (po := []) (mc := 0) (ms := 0) hL hl hin (c_X8_replay_B l g a .null s1 (sa xs i 1) (sa xs i 2) _ hq) ⟨rfl, rfl⟩ ⟨Nat.le_of_ble_eq_true rfl, Nat.le_of_ble_eq_true rfl⟩ rfl hfm ⟨Nat.le_trans (Nat.add_le_add_left (Nat.le_of_ble_eq_true rfl) _) hcs.1, Nat.le_trans (Nat.add_le_add_left (Nat.le_of_ble_eq_true rfl) _) hcs.2⟩ hP hD hS (fun x H1 locs1 hP hD hS => W.widen (Nat.add_le_add_left (Nat.le_of_ble_eq_true rfl) _) (Nat.add_le_add_left (Nat.le_of_ble_eq_true rfl) _) (next a H1 locs1 rfl hP hD hS))
  · obtain ⟨q, hq, he⟩ := gmp hfc
    cases he
    exact lo_replay (X := Unit) (po := (Bk_c g (fun k => a (k + 44)) h)) (mc := 0) (ms := 0) hL hl hin (c_X8_replay_B l g a (.ref (a 44)) s1 (sa xs i 1) (sa xs i 2) _ hq) ⟨rfl, rfl⟩ ⟨Nat.le_of_ble_eq_true rfl, Nat.le_of_ble_eq_true rfl⟩ rfl hfm ⟨Nat.le_trans (Nat.add_le_add_left (Nat.le_of_ble_eq_true rfl) _) hcs.1, Nat.le_trans (Nat.add_le_add_left (Nat.le_of_ble_eq_true rfl) _) hcs.2⟩ hP hD hS (fun x H1 locs1 hP hD hS => W.widen (Nat.add_le_add_left (Nat.le_of_ble_eq_true rfl) _) (Nat.add_le_add_left (Nat.le_of_ble_eq_true rfl) _) (next a H1 locs1 rfl hP hD hS))
abbrev fc_cost (cs : CS) (a1 : Int32) : Option (Int32 × CS) := match cs with
  | .inl s => (f_X8_cost_N s a1).map fun q => (q.1, csN q.2)
  | .inr (.inl s) => (f_X8_cost_B s a1).map fun q => (q.1, csB q.2)
  | .inr (.inr (s, h)) => (f_X8_cost_B s a1).map fun q => (q.1, csS q.2 h)
set_option maxHeartbeats 1000000 in
theorem ld_cost {a : Nat → Nat} {cs cs' : CS} {r : Int32} {sm sm' : MoT} {dv : Nat → Int64} (hL : LE p c meth s m g b L xs) (hl : LV ls b (a 0) (am 0) d i) (hin : LI i L)
    (hfc : fc_cost cs (sa xs i 1) = some (r, cs')) (hfm : f_X9_cost sm (sa xs i 1) = some (r, sm')) (hcs : cells + 25 ≤ 601024 ∧ slots + 6480 ≤ 7293034)
    (hP : gP g (CSw g a cs ++ (CSp g a cs ++ (Mo_c g am sm ++ Lout g d dv))) H) (hD : va_D (lA s) (CSw g a cs ++ (CSp g a cs ++ (Mo_c g am sm ++ Lout g d dv)))) (hS : va_S (lA s) s.heap H locs)
    (next : ∀ (a' : Nat → Nat) (H1 : Heap) (locs1 : List Loc), a' 0 = a 0 → gP g (CSw g a' cs' ++ (CSp g a' cs' ++ (Mo_c g am sm' ++ Lout g d dv))) H1 → va_D (lA s) (CSw g a' cs' ++ (CSp g a' cs' ++ (Mo_c g am sm' ++ Lout g d dv))) → va_S (lA s) s.heap H1 locs1 → W p l e room_1 s m #[Value.ref b] below meth c H1 locs1 (cells + 25) (slots + 6480) Q (F0 m 1571 ls [])) :
    W p l e room_1 s m #[Value.ref b] below meth c H locs cells slots Q (F0 m 1266 ls []) := by
  rcases cs with s1 | s1 | ⟨s1, h⟩
  · obtain ⟨q, hq, he⟩ := gmp hfc
    cases he
    exact lo_cost (X := Unit) (po := []) (mc := 0) (ms := 0) hL hl hin (c_X8_cost_N l g a s1 (sa xs i 1) _ hq) ⟨rfl, rfl⟩ ⟨Nat.le_of_ble_eq_true rfl, Nat.le_of_ble_eq_true rfl⟩ rfl hfm ⟨Nat.le_trans (Nat.add_le_add_left (Nat.le_of_ble_eq_true rfl) _) hcs.1, Nat.le_trans (Nat.add_le_add_left (Nat.le_of_ble_eq_true rfl) _) hcs.2⟩ hP hD hS (fun x H1 locs1 hP hD hS => W.widen (Nat.add_le_add_left (Nat.le_of_ble_eq_true rfl) _) (Nat.add_le_add_left (Nat.le_of_ble_eq_true rfl) _) (next a H1 locs1 rfl hP hD hS))
  · obtain ⟨q, hq, he⟩ := gmp hfc
    cases he
    exact lo_cost (X := Unit) (po := []) (mc := 0) (ms := 0) hL hl hin (c_X8_cost_B l g a .null s1 (sa xs i 1) _ hq) ⟨rfl, rfl⟩ ⟨Nat.le_of_ble_eq_true rfl, Nat.le_of_ble_eq_true rfl⟩ rfl hfm ⟨Nat.le_trans (Nat.add_le_add_left (Nat.le_of_ble_eq_true rfl) _) hcs.1, Nat.le_trans (Nat.add_le_add_left (Nat.le_of_ble_eq_true rfl) _) hcs.2⟩ hP hD hS (fun x H1 locs1 hP hD hS => W.widen (Nat.add_le_add_left (Nat.le_of_ble_eq_true rfl) _) (Nat.add_le_add_left (Nat.le_of_ble_eq_true rfl) _) (next a H1 locs1 rfl hP hD hS))
  · obtain ⟨q, hq, he⟩ := gmp hfc
    cases he
    exact lo_cost (X := Unit) (po := (Bk_c g (fun k => a (k + 44)) h)) (mc := 0) (ms := 0) hL hl hin (c_X8_cost_B l g a (.ref (a 44)) s1 (sa xs i 1) _ hq) ⟨rfl, rfl⟩ ⟨Nat.le_of_ble_eq_true rfl, Nat.le_of_ble_eq_true rfl⟩ rfl hfm ⟨Nat.le_trans (Nat.add_le_add_left (Nat.le_of_ble_eq_true rfl) _) hcs.1, Nat.le_trans (Nat.add_le_add_left (Nat.le_of_ble_eq_true rfl) _) hcs.2⟩ hP hD hS (fun x H1 locs1 hP hD hS => W.widen (Nat.add_le_add_left (Nat.le_of_ble_eq_true rfl) _) (Nat.add_le_add_left (Nat.le_of_ble_eq_true rfl) _) (next a H1 locs1 rfl hP hD hS))
abbrev fc_event (cs : CS) (a1 a2 a3 a4 a5 : Int32) : Option (Int32 × CS) := match cs with
  | .inl s => (f_X8_event_N s a1 a2 a3 a4 a5).map fun q => (q.1, csN q.2)
  | .inr (.inl s) => (f_X8_event_B s a1 a2 a3 a4 a5).map fun q => (q.1, csB q.2)
  | .inr (.inr (s, h)) => (f_X8_event_B s a1 a2 a3 a4 a5).map fun q => (q.1, csS q.2 h)
set_option maxHeartbeats 1000000 in
theorem ld_event {a : Nat → Nat} {cs cs' : CS} {r : Int32} {sm sm' : MoT} {dv : Nat → Int64} (hL : LE p c meth s m g b L xs) (hl : LV ls b (a 0) (am 0) d i) (hin : LI i L)
    (hfc : fc_event cs (sa xs i 1) (sa xs i 2) (sa xs i 3) (sa xs i 4) (sa xs i 5) = some (r, cs')) (hfm : f_X9_event sm (sa xs i 1) (sa xs i 2) (sa xs i 3) (sa xs i 4) (sa xs i 5) = some (r, sm')) (hcs : cells + 25 ≤ 601024 ∧ slots + 6480 ≤ 7293034)
    (hP : gP g (CSw g a cs ++ (CSp g a cs ++ (Mo_c g am sm ++ Lout g d dv))) H) (hD : va_D (lA s) (CSw g a cs ++ (CSp g a cs ++ (Mo_c g am sm ++ Lout g d dv)))) (hS : va_S (lA s) s.heap H locs)
    (next : ∀ (a' : Nat → Nat) (H1 : Heap) (locs1 : List Loc), a' 0 = a 0 → gP g (CSw g a' cs' ++ (CSp g a' cs' ++ (Mo_c g am sm' ++ Lout g d dv))) H1 → va_D (lA s) (CSw g a' cs' ++ (CSp g a' cs' ++ (Mo_c g am sm' ++ Lout g d dv))) → va_S (lA s) s.heap H1 locs1 → W p l e room_1 s m #[Value.ref b] below meth c H1 locs1 (cells + 25) (slots + 6480) Q (F0 m 1571 ls [])) :
    W p l e room_1 s m #[Value.ref b] below meth c H locs cells slots Q (F0 m 1291 ls []) := by
  rcases cs with s1 | s1 | ⟨s1, h⟩
  · obtain ⟨q, hq, he⟩ := gmp hfc
    cases he
    exact lo_event (X := Unit) (po := []) (mc := 0) (ms := 0) hL hl hin (c_X8_event_N l g a s1 (sa xs i 1) (sa xs i 2) (sa xs i 3) (sa xs i 4) (sa xs i 5) _ hq) ⟨rfl, rfl⟩ ⟨Nat.le_of_ble_eq_true rfl, Nat.le_of_ble_eq_true rfl⟩ rfl hfm ⟨Nat.le_trans (Nat.add_le_add_left (Nat.le_of_ble_eq_true rfl) _) hcs.1, Nat.le_trans (Nat.add_le_add_left (Nat.le_of_ble_eq_true rfl) _) hcs.2⟩ hP hD hS (fun x H1 locs1 hP hD hS => W.widen (Nat.add_le_add_left (Nat.le_of_ble_eq_true rfl) _) (Nat.add_le_add_left (Nat.le_of_ble_eq_true rfl) _) (next a H1 locs1 rfl hP hD hS))
  · obtain ⟨q, hq, he⟩ := gmp hfc
    cases he
    exact lo_event (X := Unit) (po := []) (mc := 0) (ms := 0) hL hl hin (c_X8_event_B l g a .null s1 (sa xs i 1) (sa xs i 2) (sa xs i 3) (sa xs i 4) (sa xs i 5) _ hq) ⟨rfl, rfl⟩ ⟨Nat.le_of_ble_eq_true rfl, Nat.le_of_ble_eq_true rfl⟩ rfl hfm ⟨Nat.le_trans (Nat.add_le_add_left (Nat.le_of_ble_eq_true rfl) _) hcs.1, Nat.le_trans (Nat.add_le_add_left (Nat.le_of_ble_eq_true rfl) _) hcs.2⟩ hP hD hS (fun x H1 locs1 hP hD hS => W.widen (Nat.add_le_add_left (Nat.le_of_ble_eq_true rfl) _) (Nat.add_le_add_left (Nat.le_of_ble_eq_true rfl) _) (next a H1 locs1 rfl hP hD hS))
  · obtain ⟨q, hq, he⟩ := gmp hfc
    cases he
    exact lo_event (X := Unit) (po := (Bk_c g (fun k => a (k + 44)) h)) (mc := 0) (ms := 0) hL hl hin (c_X8_event_B l g a (.ref (a 44)) s1 (sa xs i 1) (sa xs i 2) (sa xs i 3) (sa xs i 4) (sa xs i 5) _ hq) ⟨rfl, rfl⟩ ⟨Nat.le_of_ble_eq_true rfl, Nat.le_of_ble_eq_true rfl⟩ rfl hfm ⟨Nat.le_trans (Nat.add_le_add_left (Nat.le_of_ble_eq_true rfl) _) hcs.1, Nat.le_trans (Nat.add_le_add_left (Nat.le_of_ble_eq_true rfl) _) hcs.2⟩ hP hD hS (fun x H1 locs1 hP hD hS => W.widen (Nat.add_le_add_left (Nat.le_of_ble_eq_true rfl) _) (Nat.add_le_add_left (Nat.le_of_ble_eq_true rfl) _) (next a H1 locs1 rfl hP hD hS))
abbrev fc_tick (cs : CS) (a1 : Int32) : Option (Int32 × CS) := match cs with
  | .inl s => (f_X8_tick_N s a1).map fun q => (q.1, csN q.2)
  | .inr (.inl s) => (f_X8_tick_B s a1).map fun q => (q.1, csB q.2)
  | .inr (.inr (s, h)) => (f_X8_tick_B s a1).map fun q => (q.1, csS q.2 h)
set_option maxHeartbeats 1000000 in
theorem ld_tick {a : Nat → Nat} {cs cs' : CS} {r : Int32} {sm sm' : MoT} {dv : Nat → Int64} (hL : LE p c meth s m g b L xs) (hl : LV ls b (a 0) (am 0) d i) (hin : LI i L)
    (hfc : fc_tick cs (sa xs i 1) = some (r, cs')) (hfm : f_X9_tick sm (sa xs i 1) = some (r, sm')) (hcs : cells + 25 ≤ 601024 ∧ slots + 6480 ≤ 7293034)
    (hP : gP g (CSw g a cs ++ (CSp g a cs ++ (Mo_c g am sm ++ Lout g d dv))) H) (hD : va_D (lA s) (CSw g a cs ++ (CSp g a cs ++ (Mo_c g am sm ++ Lout g d dv)))) (hS : va_S (lA s) s.heap H locs)
    (next : ∀ (a' : Nat → Nat) (H1 : Heap) (locs1 : List Loc), a' 0 = a 0 → gP g (CSw g a' cs' ++ (CSp g a' cs' ++ (Mo_c g am sm' ++ Lout g d dv))) H1 → va_D (lA s) (CSw g a' cs' ++ (CSp g a' cs' ++ (Mo_c g am sm' ++ Lout g d dv))) → va_S (lA s) s.heap H1 locs1 → W p l e room_1 s m #[Value.ref b] below meth c H1 locs1 (cells + 25) (slots + 6480) Q (F0 m 1571 ls [])) :
    W p l e room_1 s m #[Value.ref b] below meth c H locs cells slots Q (F0 m 1364 ls []) := by
  rcases cs with s1 | s1 | ⟨s1, h⟩
  · obtain ⟨q, hq, he⟩ := gmp hfc
    cases he
    exact lo_tick (X := Unit) (po := []) (mc := 0) (ms := 0) hL hl hin (c_X8_tick_N l g a s1 (sa xs i 1) _ hq) ⟨rfl, rfl⟩ ⟨Nat.le_of_ble_eq_true rfl, Nat.le_of_ble_eq_true rfl⟩ rfl hfm ⟨Nat.le_trans (Nat.add_le_add_left (Nat.le_of_ble_eq_true rfl) _) hcs.1, Nat.le_trans (Nat.add_le_add_left (Nat.le_of_ble_eq_true rfl) _) hcs.2⟩ hP hD hS (fun x H1 locs1 hP hD hS => W.widen (Nat.add_le_add_left (Nat.le_of_ble_eq_true rfl) _) (Nat.add_le_add_left (Nat.le_of_ble_eq_true rfl) _) (next a H1 locs1 rfl hP hD hS))
  · obtain ⟨q, hq, he⟩ := gmp hfc
    cases he
    exact lo_tick (X := Unit) (po := []) (mc := 0) (ms := 0) hL hl hin (c_X8_tick_B l g a .null s1 (sa xs i 1) _ hq) ⟨rfl, rfl⟩ ⟨Nat.le_of_ble_eq_true rfl, Nat.le_of_ble_eq_true rfl⟩ rfl hfm ⟨Nat.le_trans (Nat.add_le_add_left (Nat.le_of_ble_eq_true rfl) _) hcs.1, Nat.le_trans (Nat.add_le_add_left (Nat.le_of_ble_eq_true rfl) _) hcs.2⟩ hP hD hS (fun x H1 locs1 hP hD hS => W.widen (Nat.add_le_add_left (Nat.le_of_ble_eq_true rfl) _) (Nat.add_le_add_left (Nat.le_of_ble_eq_true rfl) _) (next a H1 locs1 rfl hP hD hS))
  · obtain ⟨q, hq, he⟩ := gmp hfc
    cases he
    exact lo_tick (X := Unit) (po := (Bk_c g (fun k => a (k + 44)) h)) (mc := 0) (ms := 0) hL hl hin (c_X8_tick_B l g a (.ref (a 44)) s1 (sa xs i 1) _ hq) ⟨rfl, rfl⟩ ⟨Nat.le_of_ble_eq_true rfl, Nat.le_of_ble_eq_true rfl⟩ rfl hfm ⟨Nat.le_trans (Nat.add_le_add_left (Nat.le_of_ble_eq_true rfl) _) hcs.1, Nat.le_trans (Nat.add_le_add_left (Nat.le_of_ble_eq_true rfl) _) hcs.2⟩ hP hD hS (fun x H1 locs1 hP hD hS => W.widen (Nat.add_le_add_left (Nat.le_of_ble_eq_true rfl) _) (Nat.add_le_add_left (Nat.le_of_ble_eq_true rfl) _) (next a H1 locs1 rfl hP hD hS))
abbrev fc_how (cs : CS) (a1 : Int32) : Option (Int32 × CS) := match cs with
  | .inl s => (f_X8_how_N s a1).map fun q => (q.1, csN q.2)
  | .inr (.inl s) => (f_X8_how_B s a1).map fun q => (q.1, csB q.2)
  | .inr (.inr (s, h)) => (f_X8_how_B s a1).map fun q => (q.1, csS q.2 h)
set_option maxHeartbeats 1000000 in
theorem ld_how {a : Nat → Nat} {cs cs' : CS} {r : Int32} {sm sm' : MoT} {dv : Nat → Int64} (hL : LE p c meth s m g b L xs) (hl : LV ls b (a 0) (am 0) d i) (hin : LI i L)
    (hfc : fc_how cs (sa xs i 1) = some (r, cs')) (hfm : f_X9_how sm (sa xs i 1) = some (r, sm')) (hcs : cells + 25 ≤ 601024 ∧ slots + 6480 ≤ 7293034)
    (hP : gP g (CSw g a cs ++ (CSp g a cs ++ (Mo_c g am sm ++ Lout g d dv))) H) (hD : va_D (lA s) (CSw g a cs ++ (CSp g a cs ++ (Mo_c g am sm ++ Lout g d dv)))) (hS : va_S (lA s) s.heap H locs)
    (next : ∀ (a' : Nat → Nat) (H1 : Heap) (locs1 : List Loc), a' 0 = a 0 → gP g (CSw g a' cs' ++ (CSp g a' cs' ++ (Mo_c g am sm' ++ Lout g d dv))) H1 → va_D (lA s) (CSw g a' cs' ++ (CSp g a' cs' ++ (Mo_c g am sm' ++ Lout g d dv))) → va_S (lA s) s.heap H1 locs1 → W p l e room_1 s m #[Value.ref b] below meth c H1 locs1 (cells + 25) (slots + 6480) Q (F0 m 1571 ls [])) :
    W p l e room_1 s m #[Value.ref b] below meth c H locs cells slots Q (F0 m 1389 ls []) := by
  rcases cs with s1 | s1 | ⟨s1, h⟩
  · obtain ⟨q, hq, he⟩ := gmp hfc
    cases he
    exact lo_how (X := Unit) (po := []) (mc := 0) (ms := 0) hL hl hin (c_X8_how_N l g a s1 (sa xs i 1) _ hq) ⟨rfl, rfl⟩ ⟨Nat.le_of_ble_eq_true rfl, Nat.le_of_ble_eq_true rfl⟩ rfl hfm ⟨Nat.le_trans (Nat.add_le_add_left (Nat.le_of_ble_eq_true rfl) _) hcs.1, Nat.le_trans (Nat.add_le_add_left (Nat.le_of_ble_eq_true rfl) _) hcs.2⟩ hP hD hS (fun x H1 locs1 hP hD hS => W.widen (Nat.add_le_add_left (Nat.le_of_ble_eq_true rfl) _) (Nat.add_le_add_left (Nat.le_of_ble_eq_true rfl) _) (next a H1 locs1 rfl hP hD hS))
  · obtain ⟨q, hq, he⟩ := gmp hfc
    cases he
    exact lo_how (X := Unit) (po := []) (mc := 0) (ms := 0) hL hl hin (c_X8_how_B l g a .null s1 (sa xs i 1) _ hq) ⟨rfl, rfl⟩ ⟨Nat.le_of_ble_eq_true rfl, Nat.le_of_ble_eq_true rfl⟩ rfl hfm ⟨Nat.le_trans (Nat.add_le_add_left (Nat.le_of_ble_eq_true rfl) _) hcs.1, Nat.le_trans (Nat.add_le_add_left (Nat.le_of_ble_eq_true rfl) _) hcs.2⟩ hP hD hS (fun x H1 locs1 hP hD hS => W.widen (Nat.add_le_add_left (Nat.le_of_ble_eq_true rfl) _) (Nat.add_le_add_left (Nat.le_of_ble_eq_true rfl) _) (next a H1 locs1 rfl hP hD hS))
  · obtain ⟨q, hq, he⟩ := gmp hfc
    cases he
    exact lo_how (X := Unit) (po := (Bk_c g (fun k => a (k + 44)) h)) (mc := 0) (ms := 0) hL hl hin (c_X8_how_B l g a (.ref (a 44)) s1 (sa xs i 1) _ hq) ⟨rfl, rfl⟩ ⟨Nat.le_of_ble_eq_true rfl, Nat.le_of_ble_eq_true rfl⟩ rfl hfm ⟨Nat.le_trans (Nat.add_le_add_left (Nat.le_of_ble_eq_true rfl) _) hcs.1, Nat.le_trans (Nat.add_le_add_left (Nat.le_of_ble_eq_true rfl) _) hcs.2⟩ hP hD hS (fun x H1 locs1 hP hD hS => W.widen (Nat.add_le_add_left (Nat.le_of_ble_eq_true rfl) _) (Nat.add_le_add_left (Nat.le_of_ble_eq_true rfl) _) (next a H1 locs1 rfl hP hD hS))
abbrev fc_bounds (cs : CS) (a1 a2 : Int32) : Option (Int32 × CS) := match cs with
  | .inl s => (f_X8_bounds_N s a1 a2).map fun q => (q.1, csN q.2)
  | .inr (.inl s) => (f_X8_bounds_B s a1 a2).map fun q => (q.1, csB q.2)
  | .inr (.inr (s, h)) => (f_X8_bounds_B s a1 a2).map fun q => (q.1, csS q.2 h)
set_option maxHeartbeats 1000000 in
theorem ld_bounds {a : Nat → Nat} {cs cs' : CS} {r : Int32} {sm sm' : MoT} {dv : Nat → Int64} (hL : LE p c meth s m g b L xs) (hl : LV ls b (a 0) (am 0) d i) (hin : LI i L)
    (hfc : fc_bounds cs (sa xs i 1) (sa xs i 2) = some (r, cs')) (hfm : f_X9_bounds sm (sa xs i 1) (sa xs i 2) = some (r, sm')) (hcs : cells + 25 ≤ 601024 ∧ slots + 6480 ≤ 7293034)
    (hP : gP g (CSw g a cs ++ (CSp g a cs ++ (Mo_c g am sm ++ Lout g d dv))) H) (hD : va_D (lA s) (CSw g a cs ++ (CSp g a cs ++ (Mo_c g am sm ++ Lout g d dv)))) (hS : va_S (lA s) s.heap H locs)
    (next : ∀ (a' : Nat → Nat) (H1 : Heap) (locs1 : List Loc), a' 0 = a 0 → gP g (CSw g a' cs' ++ (CSp g a' cs' ++ (Mo_c g am sm' ++ Lout g d dv))) H1 → va_D (lA s) (CSw g a' cs' ++ (CSp g a' cs' ++ (Mo_c g am sm' ++ Lout g d dv))) → va_S (lA s) s.heap H1 locs1 → W p l e room_1 s m #[Value.ref b] below meth c H1 locs1 (cells + 25) (slots + 6480) Q (F0 m 1571 ls [])) :
    W p l e room_1 s m #[Value.ref b] below meth c H locs cells slots Q (F0 m 1414 ls []) := by
  rcases cs with s1 | s1 | ⟨s1, h⟩
  · obtain ⟨q, hq, he⟩ := gmp hfc
    cases he
    exact lo_bounds (X := Unit) (po := []) (mc := 0) (ms := 0) hL hl hin (c_X8_bounds_N l g a s1 (sa xs i 1) (sa xs i 2) _ hq) ⟨rfl, rfl⟩ ⟨Nat.le_of_ble_eq_true rfl, Nat.le_of_ble_eq_true rfl⟩ rfl hfm ⟨Nat.le_trans (Nat.add_le_add_left (Nat.le_of_ble_eq_true rfl) _) hcs.1, Nat.le_trans (Nat.add_le_add_left (Nat.le_of_ble_eq_true rfl) _) hcs.2⟩ hP hD hS (fun x H1 locs1 hP hD hS => W.widen (Nat.add_le_add_left (Nat.le_of_ble_eq_true rfl) _) (Nat.add_le_add_left (Nat.le_of_ble_eq_true rfl) _) (next a H1 locs1 rfl hP hD hS))
  · obtain ⟨q, hq, he⟩ := gmp hfc
    cases he
    exact lo_bounds (X := Unit) (po := []) (mc := 0) (ms := 0) hL hl hin (c_X8_bounds_B l g a .null s1 (sa xs i 1) (sa xs i 2) _ hq) ⟨rfl, rfl⟩ ⟨Nat.le_of_ble_eq_true rfl, Nat.le_of_ble_eq_true rfl⟩ rfl hfm ⟨Nat.le_trans (Nat.add_le_add_left (Nat.le_of_ble_eq_true rfl) _) hcs.1, Nat.le_trans (Nat.add_le_add_left (Nat.le_of_ble_eq_true rfl) _) hcs.2⟩ hP hD hS (fun x H1 locs1 hP hD hS => W.widen (Nat.add_le_add_left (Nat.le_of_ble_eq_true rfl) _) (Nat.add_le_add_left (Nat.le_of_ble_eq_true rfl) _) (next a H1 locs1 rfl hP hD hS))
  · obtain ⟨q, hq, he⟩ := gmp hfc
    cases he
    exact lo_bounds (X := Unit) (po := (Bk_c g (fun k => a (k + 44)) h)) (mc := 0) (ms := 0) hL hl hin (c_X8_bounds_B l g a (.ref (a 44)) s1 (sa xs i 1) (sa xs i 2) _ hq) ⟨rfl, rfl⟩ ⟨Nat.le_of_ble_eq_true rfl, Nat.le_of_ble_eq_true rfl⟩ rfl hfm ⟨Nat.le_trans (Nat.add_le_add_left (Nat.le_of_ble_eq_true rfl) _) hcs.1, Nat.le_trans (Nat.add_le_add_left (Nat.le_of_ble_eq_true rfl) _) hcs.2⟩ hP hD hS (fun x H1 locs1 hP hD hS => W.widen (Nat.add_le_add_left (Nat.le_of_ble_eq_true rfl) _) (Nat.add_le_add_left (Nat.le_of_ble_eq_true rfl) _) (next a H1 locs1 rfl hP hD hS))
abbrev fc_keep (cs : CS) : Option (Int32 × CS) := match cs with
  | .inl s => (f_X8_keep_N s).map fun q => (q.1, csN q.2)
  | .inr (.inl s) => (f_X8_keep_K1 s).map fun q => (q.1, ofS q.2)
  | .inr (.inr (s, h)) => (f_X8_keep_S (toS s h)).map fun q => (q.1, ofS q.2)
set_option maxHeartbeats 1000000 in
theorem ld_keep {a : Nat → Nat} {cs cs' : CS} {r : Int32} {sm sm' : MoT} {dv : Nat → Int64} (hL : LE p c meth s m g b L xs) (hl : LV ls b (a 0) (am 0) d i) (hin : LI i L)
    (hfc : fc_keep cs = some (r, cs')) (hfm : f_X9_keep sm = some (r, sm')) (hcs : cells + 25 ≤ 601024 ∧ slots + 6480 ≤ 7293034)
    (hP : gP g (CSw g a cs ++ (CSp g a cs ++ (Mo_c g am sm ++ Lout g d dv))) H) (hD : va_D (lA s) (CSw g a cs ++ (CSp g a cs ++ (Mo_c g am sm ++ Lout g d dv)))) (hS : va_S (lA s) s.heap H locs)
    (next : ∀ (a' : Nat → Nat) (H1 : Heap) (locs1 : List Loc), a' 0 = a 0 → gP g (CSw g a' cs' ++ (CSp g a' cs' ++ (Mo_c g am sm' ++ Lout g d dv))) H1 → va_D (lA s) (CSw g a' cs' ++ (CSp g a' cs' ++ (Mo_c g am sm' ++ Lout g d dv))) → va_S (lA s) s.heap H1 locs1 → W p l e room_1 s m #[Value.ref b] below meth c H1 locs1 (cells + 25) (slots + 6480) Q (F0 m 1571 ls [])) :
    W p l e room_1 s m #[Value.ref b] below meth c H locs cells slots Q (F0 m 1451 ls []) := by
  rcases cs with s1 | s1 | ⟨s1, h⟩
  · obtain ⟨q, hq, he⟩ := gmp hfc
    cases he
    exact lo_keep (X := Unit) (po := []) (mc := 0) (ms := 0) hL hl hin (c_X8_keep_N l g a s1 _ hq) ⟨rfl, rfl⟩ ⟨Nat.le_of_ble_eq_true rfl, Nat.le_of_ble_eq_true rfl⟩ rfl hfm ⟨Nat.le_trans (Nat.add_le_add_left (Nat.le_of_ble_eq_true rfl) _) hcs.1, Nat.le_trans (Nat.add_le_add_left (Nat.le_of_ble_eq_true rfl) _) hcs.2⟩ hP hD hS (fun x H1 locs1 hP hD hS => W.widen (Nat.add_le_add_left (Nat.le_of_ble_eq_true rfl) _) (Nat.add_le_add_left (Nat.le_of_ble_eq_true rfl) _) (next a H1 locs1 rfl hP hD hS))
  · obtain ⟨q, hq, he⟩ := gmp hfc
    cases he
    exact lo_keep (X := Nat → Nat) (po := []) (mc := 25) (ms := 6480) hL hl hin (c_X8_keep_K1 l g a s1 _ hq) ⟨rfl, rfl⟩ ⟨Nat.le_of_ble_eq_true rfl, Nat.le_of_ble_eq_true rfl⟩ rfl hfm ⟨Nat.le_trans (Nat.add_le_add_left (Nat.le_of_ble_eq_true rfl) _) hcs.1, Nat.le_trans (Nat.add_le_add_left (Nat.le_of_ble_eq_true rfl) _) hcs.2⟩ hP hD hS (fun x H1 locs1 hP hD hS => W.widen (Nat.add_le_add_left (Nat.le_of_ble_eq_true rfl) _) (Nat.add_le_add_left (Nat.le_of_ble_eq_true rfl) _) (next (jo 44 a x) H1 locs1 rfl hP hD hS))
  · obtain ⟨q, hq, he⟩ := gmp hfc
    cases he
    exact lo_keep (X := Unit) (po := []) (mc := 0) (ms := 0) hL hl hin (c_X8_keep_S l g a (toS s1 h) _ hq) ⟨rfl, rfl⟩ ⟨Nat.le_of_ble_eq_true rfl, Nat.le_of_ble_eq_true rfl⟩ rfl hfm ⟨Nat.le_trans (Nat.add_le_add_left (Nat.le_of_ble_eq_true rfl) _) hcs.1, Nat.le_trans (Nat.add_le_add_left (Nat.le_of_ble_eq_true rfl) _) hcs.2⟩ hP hD hS (fun x H1 locs1 hP hD hS => W.widen (Nat.add_le_add_left (Nat.le_of_ble_eq_true rfl) _) (Nat.add_le_add_left (Nat.le_of_ble_eq_true rfl) _) (next a H1 locs1 rfl hP hD hS))
abbrev fc_back (cs : CS) : Option (Int32 × CS) := match cs with
  | .inl s => (f_X8_back_N s).map fun q => (q.1, csN q.2)
  | .inr (.inl s) => (f_X8_back_K s).map fun q => (q.1, csB q.2)
  | .inr (.inr (s, h)) => (f_X8_back_S (toS s h)).map fun q => (q.1, ofS q.2)
set_option maxHeartbeats 1000000 in
theorem ld_back {a : Nat → Nat} {cs cs' : CS} {r : Int32} {sm sm' : MoT} {dv : Nat → Int64} (hL : LE p c meth s m g b L xs) (hl : LV ls b (a 0) (am 0) d i) (hin : LI i L)
    (hfc : fc_back cs = some (r, cs')) (hfm : f_X9_back sm = some (r, sm')) (hcs : cells + 25 ≤ 601024 ∧ slots + 6480 ≤ 7293034)
    (hP : gP g (CSw g a cs ++ (CSp g a cs ++ (Mo_c g am sm ++ Lout g d dv))) H) (hD : va_D (lA s) (CSw g a cs ++ (CSp g a cs ++ (Mo_c g am sm ++ Lout g d dv)))) (hS : va_S (lA s) s.heap H locs)
    (next : ∀ (a' : Nat → Nat) (H1 : Heap) (locs1 : List Loc), a' 0 = a 0 → gP g (CSw g a' cs' ++ (CSp g a' cs' ++ (Mo_c g am sm' ++ Lout g d dv))) H1 → va_D (lA s) (CSw g a' cs' ++ (CSp g a' cs' ++ (Mo_c g am sm' ++ Lout g d dv))) → va_S (lA s) s.heap H1 locs1 → W p l e room_1 s m #[Value.ref b] below meth c H1 locs1 (cells + 25) (slots + 6480) Q (F0 m 1571 ls [])) :
    W p l e room_1 s m #[Value.ref b] below meth c H locs cells slots Q (F0 m 1464 ls []) := by
  rcases cs with s1 | s1 | ⟨s1, h⟩
  · obtain ⟨q, hq, he⟩ := gmp hfc
    cases he
    exact lo_back (X := Unit) (po := []) (mc := 0) (ms := 0) hL hl hin (c_X8_back_N l g a s1 _ hq) ⟨rfl, rfl⟩ ⟨Nat.le_of_ble_eq_true rfl, Nat.le_of_ble_eq_true rfl⟩ rfl hfm ⟨Nat.le_trans (Nat.add_le_add_left (Nat.le_of_ble_eq_true rfl) _) hcs.1, Nat.le_trans (Nat.add_le_add_left (Nat.le_of_ble_eq_true rfl) _) hcs.2⟩ hP hD hS (fun x H1 locs1 hP hD hS => W.widen (Nat.add_le_add_left (Nat.le_of_ble_eq_true rfl) _) (Nat.add_le_add_left (Nat.le_of_ble_eq_true rfl) _) (next a H1 locs1 rfl hP hD hS))
  · obtain ⟨q, hq, he⟩ := gmp hfc
    cases he
    exact lo_back (X := Unit) (po := []) (mc := 0) (ms := 0) hL hl hin (c_X8_back_K l g a s1 _ hq) ⟨rfl, rfl⟩ ⟨Nat.le_of_ble_eq_true rfl, Nat.le_of_ble_eq_true rfl⟩ rfl hfm ⟨Nat.le_trans (Nat.add_le_add_left (Nat.le_of_ble_eq_true rfl) _) hcs.1, Nat.le_trans (Nat.add_le_add_left (Nat.le_of_ble_eq_true rfl) _) hcs.2⟩ hP hD hS (fun x H1 locs1 hP hD hS => W.widen (Nat.add_le_add_left (Nat.le_of_ble_eq_true rfl) _) (Nat.add_le_add_left (Nat.le_of_ble_eq_true rfl) _) (next a H1 locs1 rfl hP hD hS))
  · obtain ⟨q, hq, he⟩ := gmp hfc
    cases he
    exact lo_back (X := Unit) (po := []) (mc := 0) (ms := 0) hL hl hin (c_X8_back_S l g a (toS s1 h) _ hq) ⟨rfl, rfl⟩ ⟨Nat.le_of_ble_eq_true rfl, Nat.le_of_ble_eq_true rfl⟩ rfl hfm ⟨Nat.le_trans (Nat.add_le_add_left (Nat.le_of_ble_eq_true rfl) _) hcs.1, Nat.le_trans (Nat.add_le_add_left (Nat.le_of_ble_eq_true rfl) _) hcs.2⟩ hP hD hS (fun x H1 locs1 hP hD hS => W.widen (Nat.add_le_add_left (Nat.le_of_ble_eq_true rfl) _) (Nat.add_le_add_left (Nat.le_of_ble_eq_true rfl) _) (next a H1 locs1 rfl hP hD hS))
abbrev fc_size (cs : CS) (a1 : Int32) : Option (Int32 × CS) := match cs with
  | .inl s => (f_X8_size_N s a1).map fun q => (q, csN s)
  | .inr (.inl s) => (f_X8_size_B s a1).map fun q => (q, csB s)
  | .inr (.inr (s, h)) => (f_X8_size_B s a1).map fun q => (q, csS s h)
set_option maxHeartbeats 1000000 in
theorem ld_size {a : Nat → Nat} {cs cs' : CS} {r : Int32} {sm sm' : MoT} {dv : Nat → Int64} (hL : LE p c meth s m g b L xs) (hl : LV ls b (a 0) (am 0) d i) (hin : LI i L)
    (hfc : fc_size cs (sa xs i 1) = some (r, cs')) (hfm : f_X9_size sm (sa xs i 1) = some (r, sm')) (hcs : cells + 25 ≤ 601024 ∧ slots + 6480 ≤ 7293034)
    (hP : gP g (CSw g a cs ++ (CSp g a cs ++ (Mo_c g am sm ++ Lout g d dv))) H) (hD : va_D (lA s) (CSw g a cs ++ (CSp g a cs ++ (Mo_c g am sm ++ Lout g d dv)))) (hS : va_S (lA s) s.heap H locs)
    (next : ∀ (a' : Nat → Nat) (H1 : Heap) (locs1 : List Loc), a' 0 = a 0 → gP g (CSw g a' cs' ++ (CSp g a' cs' ++ (Mo_c g am sm' ++ Lout g d dv))) H1 → va_D (lA s) (CSw g a' cs' ++ (CSp g a' cs' ++ (Mo_c g am sm' ++ Lout g d dv))) → va_S (lA s) s.heap H1 locs1 → W p l e room_1 s m #[Value.ref b] below meth c H1 locs1 (cells + 25) (slots + 6480) Q (F0 m 1571 ls [])) :
    W p l e room_1 s m #[Value.ref b] below meth c H locs cells slots Q (F0 m 1533 ls []) := by
  rcases cs with s1 | s1 | ⟨s1, h⟩
  · obtain ⟨q, hq, he⟩ := gmp hfc
    cases he
    exact lo_size (X := Unit) (po := []) (mc := 0) (ms := 0) hL hl hin (gR_gM (c_X8_size_N l g a s1 (sa xs i 1) _ hq)) ⟨rfl, rfl⟩ ⟨Nat.le_of_ble_eq_true rfl, Nat.le_of_ble_eq_true rfl⟩ rfl hfm ⟨Nat.le_trans (Nat.add_le_add_left (Nat.le_of_ble_eq_true rfl) _) hcs.1, Nat.le_trans (Nat.add_le_add_left (Nat.le_of_ble_eq_true rfl) _) hcs.2⟩ hP hD hS (fun x H1 locs1 hP hD hS => W.widen (Nat.add_le_add_left (Nat.le_of_ble_eq_true rfl) _) (Nat.add_le_add_left (Nat.le_of_ble_eq_true rfl) _) (next a H1 locs1 rfl hP hD hS))
  · obtain ⟨q, hq, he⟩ := gmp hfc
    cases he
    exact lo_size (X := Unit) (po := []) (mc := 0) (ms := 0) hL hl hin (gR_gM (c_X8_size_B l g a .null s1 (sa xs i 1) _ hq)) ⟨rfl, rfl⟩ ⟨Nat.le_of_ble_eq_true rfl, Nat.le_of_ble_eq_true rfl⟩ rfl hfm ⟨Nat.le_trans (Nat.add_le_add_left (Nat.le_of_ble_eq_true rfl) _) hcs.1, Nat.le_trans (Nat.add_le_add_left (Nat.le_of_ble_eq_true rfl) _) hcs.2⟩ hP hD hS (fun x H1 locs1 hP hD hS => W.widen (Nat.add_le_add_left (Nat.le_of_ble_eq_true rfl) _) (Nat.add_le_add_left (Nat.le_of_ble_eq_true rfl) _) (next a H1 locs1 rfl hP hD hS))
  · obtain ⟨q, hq, he⟩ := gmp hfc
    cases he
    exact lo_size (X := Unit) (po := (Bk_c g (fun k => a (k + 44)) h)) (mc := 0) (ms := 0) hL hl hin (gR_gM (c_X8_size_B l g a (.ref (a 44)) s1 (sa xs i 1) _ hq)) ⟨rfl, rfl⟩ ⟨Nat.le_of_ble_eq_true rfl, Nat.le_of_ble_eq_true rfl⟩ rfl hfm ⟨Nat.le_trans (Nat.add_le_add_left (Nat.le_of_ble_eq_true rfl) _) hcs.1, Nat.le_trans (Nat.add_le_add_left (Nat.le_of_ble_eq_true rfl) _) hcs.2⟩ hP hD hS (fun x H1 locs1 hP hD hS => W.widen (Nat.add_le_add_left (Nat.le_of_ble_eq_true rfl) _) (Nat.add_le_add_left (Nat.le_of_ble_eq_true rfl) _) (next a H1 locs1 rfl hP hD hS))
abbrev fc_trouble (cs : CS) : Option (Int32 × CS) := match cs with
  | .inl s => (f_X8_trouble_N s).map fun q => (q, csN s)
  | .inr (.inl s) => (f_X8_trouble_B s).map fun q => (q, csB s)
  | .inr (.inr (s, h)) => (f_X8_trouble_B s).map fun q => (q, csS s h)
set_option maxHeartbeats 1000000 in
theorem ld_trouble {a : Nat → Nat} {cs cs' : CS} {r : Int32} {sm sm' : MoT} {dv : Nat → Int64} (hL : LE p c meth s m g b L xs) (hl : LV ls b (a 0) (am 0) d i) (hin : LI i L)
    (hfc : fc_trouble cs = some (r, cs')) (hfm : f_X9_trouble sm = some (r, sm')) (hcs : cells + 25 ≤ 601024 ∧ slots + 6480 ≤ 7293034)
    (hP : gP g (CSw g a cs ++ (CSp g a cs ++ (Mo_c g am sm ++ Lout g d dv))) H) (hD : va_D (lA s) (CSw g a cs ++ (CSp g a cs ++ (Mo_c g am sm ++ Lout g d dv)))) (hS : va_S (lA s) s.heap H locs)
    (next : ∀ (a' : Nat → Nat) (H1 : Heap) (locs1 : List Loc), a' 0 = a 0 → gP g (CSw g a' cs' ++ (CSp g a' cs' ++ (Mo_c g am sm' ++ Lout g d dv))) H1 → va_D (lA s) (CSw g a' cs' ++ (CSp g a' cs' ++ (Mo_c g am sm' ++ Lout g d dv))) → va_S (lA s) s.heap H1 locs1 → W p l e room_1 s m #[Value.ref b] below meth c H1 locs1 (cells + 25) (slots + 6480) Q (F0 m 1571 ls [])) :
    W p l e room_1 s m #[Value.ref b] below meth c H locs cells slots Q (F0 m 1558 ls []) := by
  rcases cs with s1 | s1 | ⟨s1, h⟩
  · obtain ⟨q, hq, he⟩ := gmp hfc
    cases he
    exact lo_trouble (X := Unit) (po := []) (mc := 0) (ms := 0) hL hl hin (gR_gM (c_X8_trouble_N l g a s1 _ hq)) ⟨rfl, rfl⟩ ⟨Nat.le_of_ble_eq_true rfl, Nat.le_of_ble_eq_true rfl⟩ rfl hfm ⟨Nat.le_trans (Nat.add_le_add_left (Nat.le_of_ble_eq_true rfl) _) hcs.1, Nat.le_trans (Nat.add_le_add_left (Nat.le_of_ble_eq_true rfl) _) hcs.2⟩ hP hD hS (fun x H1 locs1 hP hD hS => W.widen (Nat.add_le_add_left (Nat.le_of_ble_eq_true rfl) _) (Nat.add_le_add_left (Nat.le_of_ble_eq_true rfl) _) (next a H1 locs1 rfl hP hD hS))
  · obtain ⟨q, hq, he⟩ := gmp hfc
    cases he
    exact lo_trouble (X := Unit) (po := []) (mc := 0) (ms := 0) hL hl hin (gR_gM (c_X8_trouble_B l g a .null s1 _ hq)) ⟨rfl, rfl⟩ ⟨Nat.le_of_ble_eq_true rfl, Nat.le_of_ble_eq_true rfl⟩ rfl hfm ⟨Nat.le_trans (Nat.add_le_add_left (Nat.le_of_ble_eq_true rfl) _) hcs.1, Nat.le_trans (Nat.add_le_add_left (Nat.le_of_ble_eq_true rfl) _) hcs.2⟩ hP hD hS (fun x H1 locs1 hP hD hS => W.widen (Nat.add_le_add_left (Nat.le_of_ble_eq_true rfl) _) (Nat.add_le_add_left (Nat.le_of_ble_eq_true rfl) _) (next a H1 locs1 rfl hP hD hS))
  · obtain ⟨q, hq, he⟩ := gmp hfc
    cases he
    exact lo_trouble (X := Unit) (po := (Bk_c g (fun k => a (k + 44)) h)) (mc := 0) (ms := 0) hL hl hin (gR_gM (c_X8_trouble_B l g a (.ref (a 44)) s1 _ hq)) ⟨rfl, rfl⟩ ⟨Nat.le_of_ble_eq_true rfl, Nat.le_of_ble_eq_true rfl⟩ rfl hfm ⟨Nat.le_trans (Nat.add_le_add_left (Nat.le_of_ble_eq_true rfl) _) hcs.1, Nat.le_trans (Nat.add_le_add_left (Nat.le_of_ble_eq_true rfl) _) hcs.2⟩ hP hD hS (fun x H1 locs1 hP hD hS => W.widen (Nat.add_le_add_left (Nat.le_of_ble_eq_true rfl) _) (Nat.add_le_add_left (Nat.le_of_ble_eq_true rfl) _) (next a H1 locs1 rfl hP hD hS))
end LAWO
