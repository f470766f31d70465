theorem cl_X8_83 : Cond.classLink RX8 83 RX1 ∈ TBL := tb (in2 (List.mem_of_getElem? (i := 141) (by decide +kernel))) (by decide +kernel)
theorem inst_X1 : Cond.instantiable RX1 12 ∈ TBL := tb (in2 (List.mem_of_getElem? (i := 142) (by decide +kernel))) (by decide +kernel)
theorem ini_X1 : Cond.initialized RX1 ∈ TBL := tb (in1 (List.mem_of_getElem? (i := 8) (by decide +kernel))) (by decide +kernel)
/-- addresses: the first n of a, then those of b -/
abbrev jo (n : Nat) (a b : Nat → Nat) : Nat → Nat := fun k => bif Nat.blt k n then a k else b (k - n)
section GW
variable {p : Program} {l : Launch} {e : Env} {R : Room} {s : State} {m : MethodId} {args : Array Value} {below : List Frame} {meth : Method} {c : Code} {H : Heap} {locs : List Loc} {cells slots : Nat} {Q : State → Prop}
variable {pc : Nat} {ls : Array Slot} {rest : List Value} {g : GK} {cc : ByteArray} {nL : Nat} {ret : Option FieldType} {A : Nat → Prop} {ws : va_W}
set_option maxHeartbeats 4000000 in
set_option maxRecDepth 100000 in
/-- 'new Books()': new, dup, invokespecial -/
theorem g_newBooks (hE : GE p c meth s args m g RX8 cc nL ret) (hls : ls.size = nL) (hZ : gZ g A s s.heap) (hP : gP g ws H) (hD : va_D A ws) (hS : va_S A s.heap H locs) (hA : ∀ q : Nat, s.heap.size ≤ q → A q) (hc : cells + 25 ≤ R.cells) (hs : slots + 6480 ≤ R.slots) (hR : 4 ≤ R.frames ∧ 72 ≤ R.locals) (hroom : (rest.map fun v => v.category).sum + 1 ≤ 8)
    (d0 : decode cc pc = .ok (.new 83, 3)) (d1 : decode cc (pc + 3) = .ok (.dup, 1)) (d2 : decode cc (pc + 4) = .ok (.invokespecial 85, 3))
    (kk : ∀ (b0 : Nat → Nat) (H1 : Heap) (locs1 : List Loc), gP g (ws ++ Bk_c g b0 Bk_0) H1 → va_D A (ws ++ Bk_c g b0 Bk_0) → va_S A s.heap H1 locs1 → W p l e R s m args below meth c H1 locs1 (cells + 25) (slots + 6480) Q (F0 m (pc + 7) ls (.ref (b0 0) :: rest))) : W p l e R s m args below meth c H locs cells slots Q (F0 m pc ls rest) := by
  refine g_new hE okX1 cl_X8_83 inst_X1 ini_X1 hP hD hS hA (fs := [.null, .null, .null, .null, .null, .null, .null, .int 0, .int 0, .int 0, .int 0, .int 0]) dfX1 (by omega) (by omega) d0 (fun q H hP hD hS => ?_)
  refine lv_dup hE.1 hE.2.1 d1 rfl ?_
  have hz : Value.category (.ref q) = 1 := rfl
  refine gm_callIN1 (As := []) (rest := .ref q :: rest) (st1 := fun _ => .ref q :: rest) (ws' := fun x => ws ++ Bk_c g (fun k => if k = 0 then q else x k) Bk_0) hE hls ml_X8_85 (c_X1_init l g q) hZ hP hD hS hA ws.length (ws.length + 1) (by simp) (fun x => by simp) rfl rfl (fun _ => rfl) ⟨rfl, rfl⟩ ⟨hR.1, hR.2⟩ ⟨by omega, by omega⟩ (by rw [List.map_cons, List.sum_cons, hz]; omega) d2 (fun x H locs hP hD hS => ?_)
  exact W.widen (k := cells + 25) (n := slots + 6480) (by omega) (by omega) (kk _ H locs hP hD hS)
end GW
