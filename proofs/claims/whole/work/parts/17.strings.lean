/-! strings, characters and bytes; methods that answer nothing *and* write nothing -/
abbrev isC (v : Int32) : Prop := v = (v.toUInt32 % 65536).toInt32
theorem isC_n {v : Int32} (h : isC v) : narrow .char (.int v) = .int v := by rw [h]; exact pk_nc _
abbrev isY (v : Int32) : Prop := v = v.toInt8.toInt32
theorem isY_n {v : Int32} (h : isY v) : narrow .byte (.int v) = .int v := by rw [h]; exact pk_nb _
theorem gR_introC {l : Launch} {y : MethodName} {cc : ByteArray} {nL : Nat} {rm : Room} {g : GK} {av : List Value} {w0 : va_W} {rv : Option Value} (own : String) (hy : plainName y.cls = true) (ho : y.cls = own) (hlen : (lg_sl av).length ≤ nL)
    (body : ∀ (p : Program) (e : Env) (s : State) (m : MethodId) (args : Array Value) (below : List Frame) (meth : Method) (c : Code) (Q : State → Prop) (H : Heap) (locs : List Loc) (ls : Array Slot), GE p c meth s args m g own cc nL (some .char) → gP g w0 H → gZ g gN s s.heap → va_S gN s.heap H locs →
      (∀ {v : Int32} {pc : Nat} {ls : Array Slot}, isC v → rv = some (.int v) → decode cc pc = .ok (.ireturn, 1) → W p l e rm s m args below meth c H locs 0 0 Q (F0 m pc ls [.int v])) → lv_has ls nL (lv_args 0 av) →
      W p l e rm s m args below meth c H locs 0 0 Q (F0 m 0 ls [])) : gR l y cc nL (some .char) rm g av w0 rv := by
  refine Met.ofW (cc := cc) (maxL := nL) (ret := (some .char)) hy rfl ?_
  intro p e s m args below meth c s₁ B hml hv
  obtain ⟨rfl, hP, hK, hZ⟩ := hv
  have hts := atoms_spec (ws := Cond.code y cc nL (some .char) :: TBL) B.pre
  have hown : s.vm.findClass own = some m.cls := ho ▸ findClass_of_methodNamed B.named
  rw [lg_entry_eq]
  exact body p e s m _ below meth c _ _ _ _ ⟨B.exec, B.bytes, B.returns, B.notSynchronized, hml, hown, fun w h => hts w (List.mem_cons_of_mem _ h), hK⟩ hP hZ va_S.rf (fun hb h hd => W.zret B.exec B.bytes B.returns (isC_n hb) (fun t ht _ => ⟨by rw [h], ht⟩) (fun _ h => by cases h) hd B.notSynchronized) (lv_entry av hlen)
theorem gR_introY {l : Launch} {y : MethodName} {cc : ByteArray} {nL : Nat} {rm : Room} {g : GK} {av : List Value} {w0 : va_W} {rv : Option Value} (own : String) (hy : plainName y.cls = true) (ho : y.cls = own) (hlen : (lg_sl av).length ≤ nL)
    (body : ∀ (p : Program) (e : Env) (s : State) (m : MethodId) (args : Array Value) (below : List Frame) (meth : Method) (c : Code) (Q : State → Prop) (H : Heap) (locs : List Loc) (ls : Array Slot), GE p c meth s args m g own cc nL (some .byte) → gP g w0 H → gZ g gN s s.heap → va_S gN s.heap H locs →
      (∀ {v : Int32} {pc : Nat} {ls : Array Slot}, isY v → rv = some (.int v) → decode cc pc = .ok (.ireturn, 1) → W p l e rm s m args below meth c H locs 0 0 Q (F0 m pc ls [.int v])) → lv_has ls nL (lv_args 0 av) →
      W p l e rm s m args below meth c H locs 0 0 Q (F0 m 0 ls [])) : gR l y cc nL (some .byte) rm g av w0 rv := by
  refine Met.ofW (cc := cc) (maxL := nL) (ret := (some .byte)) hy rfl ?_
  intro p e s m args below meth c s₁ B hml hv
  obtain ⟨rfl, hP, hK, hZ⟩ := hv
  have hts := atoms_spec (ws := Cond.code y cc nL (some .byte) :: TBL) B.pre
  have hown : s.vm.findClass own = some m.cls := ho ▸ findClass_of_methodNamed B.named
  rw [lg_entry_eq]
  exact body p e s m _ below meth c _ _ _ _ ⟨B.exec, B.bytes, B.returns, B.notSynchronized, hml, hown, fun w h => hts w (List.mem_cons_of_mem _ h), hK⟩ hP hZ va_S.rf (fun hb h hd => W.zret B.exec B.bytes B.returns (isY_n hb) (fun t ht _ => ⟨by rw [h], ht⟩) (fun _ h => by cases h) hd B.notSynchronized) (lv_entry av hlen)
theorem gR_introV {l : Launch} {y : MethodName} {cc : ByteArray} {nL : Nat} {rm : Room} {g : GK} {av : List Value} {w0 : va_W} {rv : Option Value} (own : String) (hy : plainName y.cls = true) (ho : y.cls = own) (hlen : (lg_sl av).length ≤ nL)
    (body : ∀ (p : Program) (e : Env) (s : State) (m : MethodId) (args : Array Value) (below : List Frame) (meth : Method) (c : Code) (Q : State → Prop) (H : Heap) (locs : List Loc) (ls : Array Slot), GE p c meth s args m g own cc nL none → gP g w0 H → gZ g gN s s.heap → va_S gN s.heap H locs →
      (∀ {pc : Nat} {ls : Array Slot}, rv = none → decode cc pc = .ok (.return_, 1) → W p l e rm s m args below meth c H locs 0 0 Q (F0 m pc ls [])) → lv_has ls nL (lv_args 0 av) →
      W p l e rm s m args below meth c H locs 0 0 Q (F0 m 0 ls [])) : gR l y cc nL none rm g av w0 rv := by
  refine Met.ofW (cc := cc) (maxL := nL) (ret := none) hy rfl ?_
  intro p e s m args below meth c s₁ B hml hv
  obtain ⟨rfl, hP, hK, hZ⟩ := hv
  have hts := atoms_spec (ws := Cond.code y cc nL none :: TBL) B.pre
  have hown : s.vm.findClass own = some m.cls := ho ▸ findClass_of_methodNamed B.named
  rw [lg_entry_eq]
  exact body p e s m _ below meth c _ _ _ _ ⟨B.exec, B.bytes, B.returns, B.notSynchronized, hml, hown, fun w h => hts w (List.mem_cons_of_mem _ h), hK⟩ hP hZ va_S.rf (fun h hd => W.vret B.exec B.bytes B.returns (fun t ht _ => ⟨by rw [h], ht⟩) (fun _ h => by cases h) hd B.notSynchronized) (lv_entry av hlen)
section GW
variable {p : Program} {l : Launch} {e : Env} {R : Room} {s : State} {m : MethodId} {args : Array Value} {below : List Frame} {meth : Method} {c : Code} {H : Heap} {locs : List Loc} {cells slots : Nat} {Q : State → Prop}
variable {pc : Nat} {ls : Array Slot} {rest : List Value} {g : GK} {own : String} {cc : ByteArray} {nL : Nat} {ret : Option FieldType} {A : Nat → Prop} {ws : va_W}
variable {y : MethodName} {cy : ByteArray} {nLy : Nat} {rety : Option FieldType} {rmy : Room} {n idx : Nat} {As : List Value} {w0 : va_W} {b : Nat}
/-- a string constant of ours is put onto the stack -/
theorem g_ldcS {tx : String} {idx : Nat} (hE : GE p c meth s args m g RX9 cc nL ret) (i : Nat) (hi : strs[i]? = some (idx, tx)) (hd : decode cc pc = .ok (.ldc idx, 2))
    (kk : W p l e R s m args below meth c H locs cells slots Q (F0 m (pc + 2) ls (.ref (g.2.2.2.2 i) :: rest))) : W p l e R s m args below meth c H locs cells slots Q (F0 m pc ls rest) :=
  va_ldcS hE.1 hE.2.1 hE.2.2.2.2.2.1 (hE.2.2.2.2.2.2.2.2.2.1 i _ hi) hd kk
theorem g_sval {i : Nat} (hE : GE p c meth s args m g own cc nL ret) (hi : i < 12) (hk : Cond.fieldLink own idx "java/lang/String" "value" "[B" ∈ TBL) (hZ : gZ g A s s.heap) (hS : va_S A s.heap H locs) (hd : decode cc pc = .ok (.getfield idx, 3))
    (kk : W p l e R s m args below meth c H locs cells slots Q (F0 m (pc + 3) ls (.ref (g.2.2.2.2 (i + 20)) :: rest))) : W p l e R s m args below meth c H locs cells slots Q (F0 m pc ls (.ref (g.2.2.2.2 i) :: rest)) :=
  vk_getf hE.1 hE.2.1 (hZ.1.1 i hi).2.2.1 hS hE.2.2.2.2.2.1 (hE.2.2.2.2.2.2.1 _ hk) (fun _ h => h) hd kk
theorem g_scod {i : Nat} (hE : GE p c meth s args m g own cc nL ret) (hi : i < 12) (hk : Cond.fieldLink own idx "java/lang/String" "coder" "B" ∈ TBL) (hZ : gZ g A s s.heap) (hS : va_S A s.heap H locs) (hd : decode cc pc = .ok (.getfield idx, 3))
    (kk : W p l e R s m args below meth c H locs cells slots Q (F0 m (pc + 3) ls (.int 0 :: rest))) : W p l e R s m args below meth c H locs cells slots Q (F0 m pc ls (.ref (g.2.2.2.2 i) :: rest)) :=
  vk_getf hE.1 hE.2.1 (hZ.1.1 i hi).2.1 hS hE.2.2.2.2.2.1 (hE.2.2.2.2.2.2.1 _ hk) (fun _ h => h) hd kk
theorem g_slen {i : Nat} (hE : GE p c meth s args m g own cc nL ret) (hi : i < 12) (hZ : gZ g A s s.heap) (hS : va_S A s.heap H locs) (hd : decode cc pc = .ok (.arraylength, 1))
    (kk : W p l e R s m args below meth c H locs cells slots Q (F0 m (pc + 1) ls (.int (Int32.ofNat (strL.getD i 0)) :: rest))) : W p l e R s m args below meth c H locs cells slots Q (F0 m pc ls (.ref (g.2.2.2.2 (i + 20)) :: rest)) :=
  va_tlen hE.1 hE.2.1 (hZ.1.1 i hi).2.2.2 hS rfl hd kk
theorem g_sbald {i : Nat} {j : Int32} (hE : GE p c meth s args m g own cc nL ret) (hi : i < 12) (hZ : gZ g A s s.heap) (hS : va_S A s.heap H locs) (hin : inb j (strL.getD i 0)) (hd : decode cc pc = .ok (.baload, 1))
    (kk : W p l e R s m args below meth c H locs cells slots Q (F0 m (pc + 1) ls (.int ((strB.getD i []).getD (ix j) 0) :: rest))) : W p l e R s m args below meth c H locs cells slots Q (F0 m pc ls (.int j :: .ref (g.2.2.2.2 (i + 20)) :: rest)) :=
  va_tb hE.1 hE.2.1 (hZ.1.1 i hi).2.2.2 hS hin rfl hd kk
theorem g_compact (hE : GE p c meth s args m g own cc nL ret) (hk : Cond.fieldLink own idx "java/lang/String" "COMPACT_STRINGS" "Z" ∈ TBL) (hZ : gZ g A s s.heap) (hS : va_S A s.heap H locs) (hd : decode cc pc = .ok (.getstatic idx, 3))
    (kk : W p l e R s m args below meth c H locs cells slots Q (F0 m (pc + 3) ls (.int 1 :: rest))) : W p l e R s m args below meth c H locs cells slots Q (F0 m pc ls rest) :=
  va_gets hE.1 hE.2.1 hZ.2.1 hS hE.2.2.2.2.2.1 (hE.2.2.2.2.2.2.1 _ hk) (fun _ h => h) hd kk
theorem gr_callVs {rv : Option Value} {st0 st1 : List Value} {i : Nat} (hE : GE p c meth s args m g own cc nL ret) (hls : ls.size = nL) (hC : GCV own idx y cy nLy rety n) (hy : y.cls = "java/lang/String") (hM : gR l y cy nLy rety rmy g (.ref (g.2.2.2.2 i) :: As) [] rv) (hi : i < 12)
    (hZ : gZ g A s s.heap) (hS : va_S A s.heap H locs) (hn : As.length = n) (hst : st0 = As.reverse ++ .ref (g.2.2.2.2 i) :: rest) (h1 : rv.toList ++ rest = st1) (hrm : rmy.cells = 0 ∧ rmy.slots = 0) (hR : rmy.frames + 1 ≤ R.frames ∧ 8 + (nLy + 11) + rmy.locals ≤ R.locals) (hcs : cells ≤ R.cells ∧ slots ≤ R.slots) (hroom : (rest.map fun v => v.category).sum ≤ 8) (hd : decode cc pc = .ok (.invokevirtual idx, 3))
    (kk : W p l e R s m args below meth c H locs cells slots Q (F0 m (pc + 3) ls st1)) : W p l e R s m args below meth c H locs cells slots Q (F0 m pc ls st0) := by
  have ht := hE.2.2.2.2.2.2.1
  have cw : CallW R s args own y.cls idx y cy nLy rety (Cond.code y cy nLy rety :: TBL) rmy 0 0 n := ⟨callB_of n ht (goodTC hC.2.2.2.2.1) rfl hrm.1 hrm.2 (ht _ hC.2.2.2.1) (ht _ hC.1) hC.2.2.2.2.2 hR, ht _ hC.2.1, ht _ hC.2.2.1⟩
  refine gr_goes (W.runV (Ts := TBL) (own := own) (C := y.cls) ⟨hE.1, hE.2.1, hE.2.2.2.2.1, hE.2.2.2.2.2.1, ht⟩ hM cw ⟨gblindR, by rw [hy]; exact vk_recv hZ.1 hi hS, fun U hU hW => ⟨rfl, (fun k q h => by cases k <;> cases h), hE.2.2.2.2.2.2.2.warm hW, by rw [hU]; exact ((hZ.kept hS.2.1).narrow (fun _ h => h.elim)).moved hW.alike⟩⟩ rfl hn hls hst (lv_room hroom) hd hcs) h1 kk
end GW
