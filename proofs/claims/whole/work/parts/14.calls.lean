/-! generic rows: contracts of the two forms gR (reads only) and gM (writes its world), their starts, ends and calls -/
abbrev GK : Type := va_G × ClassId × ClassId × ClassId
def gT (g : GK) : List (ClassId × FieldType) := [(g.2.1, .int), (g.2.2.1, .long), (g.2.2.2, .byte)]
def gK (g : GK) (U : State) : Prop := va_K g.1 vwCl (gT g) U ∧ ∀ q ∈ nst, va_Nw (.methodLinkNest q.1 q.2.1 q.2.2.1 q.2.2.2) U
theorem gK.warm {g : GK} {s U : State} (h : gK g s) (hW : s.WarmedH U.vm) : gK g U := ⟨va_K.moved hW.alike h.1, fun q hq => va_Nw.warmM hW (h.2 q hq)⟩
theorem gK.call {g : GK} {U : State} (h : gK g U) (f : JFrame) (mk : MethodId) (a : Array Value) : gK g (U.calling f mk a) := ⟨va_K.moved (u := U) (Vm.Alike.refl U.vm) h.1, fun q hq => va_Nw.same rfl rfl (h.2 q hq)⟩
abbrev gP (g : GK) (w : va_W) (H : Heap) : Prop := va_P g.1 vwCl w H
abbrev inb (i : Int32) (n : Nat) : Prop := ¬ (i < 0 ∨ n ≤ i.toNatClampNeg)
abbrev isB (v : Int32) : Prop := v = 0 ∨ v = 1
abbrev ix (i : Int32) : Nat := i.toNatClampNeg
def GE (p : Program) (c : Code) (meth : Method) (s : State) (args : Array Value) (m : MethodId) (g : GK) (own : String) (cc : ByteArray) (nL : Nat) (ret : Option FieldType) : Prop :=
  p.tables.exec = Jvm.exec ∧ c.code = cc ∧ meth.sig.returnType = ret ∧ meth.locks = false ∧ c.maxLocals = nL ∧ s.vm.findClass own = some m.cls ∧ (∀ w ∈ TBL, w.before args s = true) ∧ gK g s
theorem gif_t {R : Type} {c : Prop} {i : Decidable c} {A B : Option R} {r : Option R} (hc : c) (h : @ite _ c i A B = r) : A = r := by rw [if_pos hc] at h; exact h
theorem gif_f {R : Type} {c : Prop} {i : Decidable c} {A B : Option R} {r : Option R} (hc : ¬ c) (h : @ite _ c i A B = r) : B = r := by rw [if_neg hc] at h; exact h
theorem ggd {R : Type} {c : Prop} {i : Decidable c} {A : Option R} {r : R} (h : @ite _ c i A none = some r) : c ∧ A = some r := by
  by_cases hc : c
  · rw [if_pos hc] at h; exact ⟨hc, h⟩
  · rw [if_neg hc] at h; cases h
theorem gbd {S R : Type} {o : Option S} {k : S → Option R} {r : R} (h : o.bind k = some r) : ∃ x, o = some x ∧ k x = some r := by
  cases o with
  | none => cases h
  | some x => exact ⟨x, rfl, h⟩
def glt {S R : Type} (v : S) (k : S → R) : R := k v
theorem gltd {S R : Type} {v : S} {k : S → R} {r : R} (h : glt v k = r) : ∃ x, x = v ∧ k x = r := ⟨v, rfl, h⟩
theorem isB_n {v : Int32} (h : isB v) : narrow .boolean (.int v) = .int v := by rcases h with rfl | rfl <;> rfl
theorem isB_f {v : Int32} (h : isB v) : fits .boolean (.int v) = true := by rcases h with rfl | rfl <;> rfl
def gQr (rv : Option Value) : Array Value → State → Outcome → State → Prop := fun _ st oc t => oc = .returned rv ∧ t.heap = st.heap
def gPr (g : GK) (av : List Value) (w0 : va_W) : Array Value → State → Prop := va_Pc av (fun U => gP g w0 U.heap ∧ gK g U)
def gR (l : Launch) (y : MethodName) (cc : ByteArray) (nL : Nat) (ret : Option FieldType) (rm : Room) (g : GK) (av : List Value) (w0 : va_W) (rv : Option Value) : Prop :=
  Met l y (Cond.code y cc nL ret :: TBL) rm (gPr g av w0) (gQr rv) 0 0 (fun _ => False)
def gQm {X : Type} (g : GK) (rv : X → Option Value) (w1 : X → va_W) (A : Nat → Prop) : Array Value → State → Outcome → State → Prop := fun _ st oc t => (∃ x : X, oc = .returned (rv x) ∧ gP g (w1 x) t.heap ∧ va_D A (w1 x)) ∧ va_F A st t
def gPm (g : GK) (av : List Value) (w0 : va_W) (sz : Nat) : Array Value → State → Prop := va_Pc av (fun U => U.heap.size = sz ∧ gP g w0 U.heap ∧ gK g U ∧ va_D (fun _ => True) w0)
def gM {X : Type} (l : Launch) (y : MethodName) (cc : ByteArray) (nL : Nat) (ret : Option FieldType) (rm : Room) (g : GK) (av : List Value) (w0 : va_W) (rv : X → Option Value) (w1 : X → va_W) (mc ms : Nat) : Prop :=
  ∀ sz : Nat, Met l y (Cond.code y cc nL ret :: TBL) rm (gPm g av w0 sz) (gQm g rv w1 (va_A w0 sz)) mc ms (va_A w0 sz)
theorem gR_introI {l : Launch} {y : MethodName} {cc : ByteArray} {nL : Nat} {rm : Room} {g : GK} {av : List Value} {w0 : va_W} {rv : Option Value} (own : String) (hy : plainName y.cls = true) (ho : y.cls = own) (hlen : (lg_sl av).length ≤ nL)
    (body : ∀ (p : Program) (e : Env) (s : State) (m : MethodId) (args : Array Value) (below : List Frame) (meth : Method) (c : Code) (Q : State → Prop) (H : Heap) (locs : List Loc) (ls : Array Slot), GE p c meth s args m g own cc nL (some .int) → gP g w0 H →
      (∀ {v : Int32} {pc : Nat} {ls : Array Slot}, rv = some (.int v) → decode cc pc = .ok (.ireturn, 1) → W p l e rm s m args below meth c H locs 0 0 Q (F0 m pc ls [.int v])) → lv_has ls nL (lv_args 0 av) →
      W p l e rm s m args below meth c H locs 0 0 Q (F0 m 0 ls [])) : gR l y cc nL (some .int) rm g av w0 rv := by
  refine Met.ofW (cc := cc) (maxL := nL) (ret := some .int) hy rfl ?_
  intro p e s m args below meth c s₁ B hml hv
  obtain ⟨rfl, hP, hK⟩ := hv
  have hts := atoms_spec (ws := Cond.code y cc nL (some .int) :: TBL) B.pre
  have hown : s.vm.findClass own = some m.cls := ho ▸ findClass_of_methodNamed B.named
  rw [lg_entry_eq]
  exact body p e s m _ below meth c _ _ _ _ ⟨B.exec, B.bytes, B.returns, B.notSynchronized, hml, hown, fun w h => hts w (List.mem_cons_of_mem _ h), hK⟩ hP (fun h hd => W.iret B.exec B.bytes B.returns (fun t ht _ => ⟨by rw [h], ht⟩) (fun _ h => by cases h) hd B.notSynchronized) (lv_entry av hlen)
theorem gR_introZ {l : Launch} {y : MethodName} {cc : ByteArray} {nL : Nat} {rm : Room} {g : GK} {av : List Value} {w0 : va_W} {rv : Option Value} (own : String) (hy : plainName y.cls = true) (ho : y.cls = own) (hlen : (lg_sl av).length ≤ nL)
    (body : ∀ (p : Program) (e : Env) (s : State) (m : MethodId) (args : Array Value) (below : List Frame) (meth : Method) (c : Code) (Q : State → Prop) (H : Heap) (locs : List Loc) (ls : Array Slot), GE p c meth s args m g own cc nL (some .boolean) → gP g w0 H →
      (∀ {v : Int32} {pc : Nat} {ls : Array Slot}, isB v → rv = some (.int v) → decode cc pc = .ok (.ireturn, 1) → W p l e rm s m args below meth c H locs 0 0 Q (F0 m pc ls [.int v])) → lv_has ls nL (lv_args 0 av) →
      W p l e rm s m args below meth c H locs 0 0 Q (F0 m 0 ls [])) : gR l y cc nL (some .boolean) rm g av w0 rv := by
  refine Met.ofW (cc := cc) (maxL := nL) (ret := some .boolean) hy rfl ?_
  intro p e s m args below meth c s₁ B hml hv
  obtain ⟨rfl, hP, hK⟩ := hv
  have hts := atoms_spec (ws := Cond.code y cc nL (some .boolean) :: TBL) B.pre
  have hown : s.vm.findClass own = some m.cls := ho ▸ findClass_of_methodNamed B.named
  rw [lg_entry_eq]
  exact body p e s m _ below meth c _ _ _ _ ⟨B.exec, B.bytes, B.returns, B.notSynchronized, hml, hown, fun w h => hts w (List.mem_cons_of_mem _ h), hK⟩ hP (fun hb h hd => W.zret B.exec B.bytes B.returns (isB_n hb) (fun t ht _ => ⟨by rw [h], ht⟩) (fun _ h => by cases h) hd B.notSynchronized) (lv_entry av hlen)
theorem gM_introI {X : Type} {l : Launch} {y : MethodName} {cc : ByteArray} {nL : Nat} {rm : Room} {g : GK} {av : List Value} {w0 : va_W} {rv : X → Option Value} {w1 : X → va_W} {mc ms : Nat} (own : String) (hy : plainName y.cls = true) (ho : y.cls = own) (hlen : (lg_sl av).length ≤ nL)
    (body : ∀ (p : Program) (e : Env) (s : State) (m : MethodId) (args : Array Value) (below : List Frame) (meth : Method) (c : Code) (Q : State → Prop) (H0 H : Heap) (locs : List Loc) (ls : Array Slot) (A : Nat → Prop), GE p c meth s args m g own cc nL (some .int) → (∀ q : Nat, H0.size ≤ q → A q) → gP g w0 H → va_D A w0 → va_S A H0 H locs →
      (∀ {H : Heap} {locs : List Loc} {v : Int32} {pc : Nat} {ls : Array Slot} (x : X), rv x = some (.int v) → gP g (w1 x) H → va_D A (w1 x) → va_S A H0 H locs → decode cc pc = .ok (.ireturn, 1) → W p l e rm s m args below meth c H locs mc ms Q (F0 m pc ls [.int v])) → lv_has ls nL (lv_args 0 av) →
      W p l e rm s m args below meth c H locs 0 0 Q (F0 m 0 ls [])) : gM l y cc nL (some .int) rm g av w0 rv w1 mc ms := by
  intro sz
  refine Met.ofW (cc := cc) (maxL := nL) (ret := some .int) hy rfl ?_
  intro p e s m args below meth c s₁ B hml hv
  obtain ⟨rfl, hsz, hP, hK, hD0⟩ := hv
  subst hsz
  have hts := atoms_spec (ws := Cond.code y cc nL (some .int) :: TBL) B.pre
  have hown : s.vm.findClass own = some m.cls := ho ▸ findClass_of_methodNamed B.named
  rw [lg_entry_eq]
  exact body p e s m _ below meth c _ s.heap _ _ _ (va_A w0 s.heap.size) ⟨B.exec, B.bytes, B.returns, B.notSynchronized, hml, hown, fun w h => hts w (List.mem_cons_of_mem _ h), hK⟩ (fun q h => Or.inr h) hP (hD0.self (sz := s.heap.size)) va_S.rf
    (fun x h hP hD hS hd => W.iret B.exec B.bytes B.returns (fun t ht _ => ⟨⟨x, by rw [h], by rw [ht]; exact hP, hD⟩, hS.F ht⟩) hS.2.2 hd B.notSynchronized) (lv_entry av hlen)
theorem gM_introZ {X : Type} {l : Launch} {y : MethodName} {cc : ByteArray} {nL : Nat} {rm : Room} {g : GK} {av : List Value} {w0 : va_W} {rv : X → Option Value} {w1 : X → va_W} {mc ms : Nat} (own : String) (hy : plainName y.cls = true) (ho : y.cls = own) (hlen : (lg_sl av).length ≤ nL)
    (body : ∀ (p : Program) (e : Env) (s : State) (m : MethodId) (args : Array Value) (below : List Frame) (meth : Method) (c : Code) (Q : State → Prop) (H0 H : Heap) (locs : List Loc) (ls : Array Slot) (A : Nat → Prop), GE p c meth s args m g own cc nL (some .boolean) → (∀ q : Nat, H0.size ≤ q → A q) → gP g w0 H → va_D A w0 → va_S A H0 H locs →
      (∀ {H : Heap} {locs : List Loc} {v : Int32} {pc : Nat} {ls : Array Slot} (x : X), isB v → rv x = some (.int v) → gP g (w1 x) H → va_D A (w1 x) → va_S A H0 H locs → decode cc pc = .ok (.ireturn, 1) → W p l e rm s m args below meth c H locs mc ms Q (F0 m pc ls [.int v])) → lv_has ls nL (lv_args 0 av) →
      W p l e rm s m args below meth c H locs 0 0 Q (F0 m 0 ls [])) : gM l y cc nL (some .boolean) rm g av w0 rv w1 mc ms := by
  intro sz
  refine Met.ofW (cc := cc) (maxL := nL) (ret := some .boolean) hy rfl ?_
  intro p e s m args below meth c s₁ B hml hv
  obtain ⟨rfl, hsz, hP, hK, hD0⟩ := hv
  subst hsz
  have hts := atoms_spec (ws := Cond.code y cc nL (some .boolean) :: TBL) B.pre
  have hown : s.vm.findClass own = some m.cls := ho ▸ findClass_of_methodNamed B.named
  rw [lg_entry_eq]
  exact body p e s m _ below meth c _ s.heap _ _ _ (va_A w0 s.heap.size) ⟨B.exec, B.bytes, B.returns, B.notSynchronized, hml, hown, fun w h => hts w (List.mem_cons_of_mem _ h), hK⟩ (fun q h => Or.inr h) hP (hD0.self (sz := s.heap.size)) va_S.rf
    (fun x hb h hP hD hS hd => W.zret B.exec B.bytes B.returns (isB_n hb) (fun t ht _ => ⟨⟨x, by rw [h], by rw [ht]; exact hP, hD⟩, hS.F ht⟩) hS.2.2 hd B.notSynchronized) (lv_entry av hlen)
theorem gM_introV {X : Type} {l : Launch} {y : MethodName} {cc : ByteArray} {nL : Nat} {rm : Room} {g : GK} {av : List Value} {w0 : va_W} {rv : X → Option Value} {w1 : X → va_W} {mc ms : Nat} (own : String) (hy : plainName y.cls = true) (ho : y.cls = own) (hlen : (lg_sl av).length ≤ nL)
    (body : ∀ (p : Program) (e : Env) (s : State) (m : MethodId) (args : Array Value) (below : List Frame) (meth : Method) (c : Code) (Q : State → Prop) (H0 H : Heap) (locs : List Loc) (ls : Array Slot) (A : Nat → Prop), GE p c meth s args m g own cc nL none → meth.name = y.name → (∀ q : Nat, H0.size ≤ q → A q) → gP g w0 H → va_D A w0 → va_S A H0 H locs →
      (∀ {H : Heap} {locs : List Loc} {pc : Nat} {ls : Array Slot} (x : X), rv x = none → gP g (w1 x) H → va_D A (w1 x) → va_S A H0 H locs → decode cc pc = .ok (.return_, 1) → W p l e rm s m args below meth c H locs mc ms Q (F0 m pc ls [])) → lv_has ls nL (lv_args 0 av) →
      W p l e rm s m args below meth c H locs 0 0 Q (F0 m 0 ls [])) : gM l y cc nL none rm g av w0 rv w1 mc ms := by
  intro sz
  refine Met.ofW (cc := cc) (maxL := nL) (ret := none) hy rfl ?_
  intro p e s m args below meth c s₁ B hml hv
  obtain ⟨rfl, hsz, hP, hK, hD0⟩ := hv
  subst hsz
  have hts := atoms_spec (ws := Cond.code y cc nL none :: TBL) B.pre
  have hown : s.vm.findClass own = some m.cls := ho ▸ findClass_of_methodNamed B.named
  rw [lg_entry_eq]
  exact body p e s m _ below meth c _ s.heap _ _ _ (va_A w0 s.heap.size) ⟨B.exec, B.bytes, B.returns, B.notSynchronized, hml, hown, fun w h => hts w (List.mem_cons_of_mem _ h), hK⟩ (name_of_methodNamed B.named B.method).1 (fun q h => Or.inr h) hP (hD0.self (sz := s.heap.size)) va_S.rf
    (fun x h hP hD hS hd => W.vret B.exec B.bytes B.returns (fun t ht _ => ⟨⟨x, by rw [h], by rw [ht]; exact hP, hD⟩, hS.F ht⟩) hS.2.2 hd B.notSynchronized) (lv_entry av hlen)
abbrev irem (x y : Int32) : Int32 := x - x / y * y
abbrev lrem (x y : Int64) : Int64 := x - x / y * y
abbrev cpok (sp dp n : Int32) (n0 n1 : Nat) : Prop := (¬ sp < 0) ∧ (¬ dp < 0) ∧ (¬ n < 0) ∧ ix sp + ix n ≤ n0 ∧ ix dp + ix n ≤ n1
theorem nti {x k32 : Int32} (h : ¬ x = k32) {k : Int} (hk : k32.toInt = k) : x.toInt ≠ k := fun e => h (Int32.toInt_inj.mp (e.trans hk.symm))
theorem kmx_s : Cond.static Lib.Math.max.name ∈ TBL := tb (in3 (List.mem_of_getElem? (i := 41) (by decide +kernel))) (by decide +kernel)
theorem kmx_c : Cond.code Lib.Math.max.name Lib.Math.max.code 2 (some .int) ∈ TBL := tb (in3 (List.mem_of_getElem? (i := 42) (by decide +kernel))) (by decide +kernel)
theorem kmn_s : Cond.static Lib.Math.min.name ∈ TBL := tb (in4 (List.mem_of_getElem? (i := 89) (by decide +kernel))) (by decide +kernel)
theorem kmn_c : Cond.code Lib.Math.min.name Lib.Math.min.code 2 (some .int) ∈ TBL := tb (in4 (List.mem_of_getElem? (i := 90) (by decide +kernel))) (by decide +kernel)
theorem km_i : Cond.initialized "java/lang/Math" ∈ TBL := tb (in1 (List.mem_of_getElem? (i := 13) (by decide +kernel))) (by decide +kernel)
theorem kcp_n : Cond.native arraycopyName ∈ TBL := tb (in3 (List.mem_of_getElem? (i := 35) (by decide +kernel))) (by decide +kernel)
theorem kcp_s : Cond.static arraycopyName ∈ TBL := tb (in3 (List.mem_of_getElem? (i := 34) (by decide +kernel))) (by decide +kernel)
theorem kcp_i : Cond.initialized "java/lang/System" ∈ TBL := tb (in1 (List.mem_of_getElem? (i := 12) (by decide +kernel))) (by decide +kernel)
section GW
variable {p : Program} {l : Launch} {e : Env} {R : Room} {s : State} {m : MethodId} {args : Array Value} {below : List Frame} {meth : Method} {c : Code} {H : Heap} {locs : List Loc} {cells slots : Nat} {Q : State → Prop}
variable {pc : Nat} {ls : Array Slot} {rest : List Value} {g : GK} {own : String} {cc : ByteArray} {nL : Nat} {ret : Option FieldType} {A : Nat → Prop} {H0 : Heap} {ws : va_W}
-- fields
theorem g_get {C : String} {T : u_T} {N ci k idx : Nat} {ty0 : Nat → FieldType} {a : Nat} {fs : List Value} {v : Value} (hE : GE p c meth s args m g own cc nL ret) (hc : GCls C T N ci ty0) (hf : GFld own idx T k N) (hP : gP g ws H) (q0 : Nat) (he : ws[q0]? = some (a, .inr (ci, fs))) (hv : fs[k]? = some v) (hd : decode cc pc = .ok (.getfield idx, 3))
    (kk : W p l e R s m args below meth c H locs cells slots Q (F0 m (pc + 3) ls (v :: rest))) : W p l e R s m args below meth c H locs cells slots Q (F0 m pc ls (.ref a :: rest)) :=
  va_get hE.1 hE.2.1 hE.2.2.2.2.2.2.1 hc.2.1 hE.2.2.2.2.2.1 hE.2.2.2.2.2.2.2.1 hP q0 he hc.1 k hf.1 (hE.2.2.2.2.2.2.1 _ hf.2) (fun _ h => h) hv hd kk
theorem g_put {C : String} {T : u_T} {N ci k idx : Nat} {ty0 : Nat → FieldType} {a : Nat} {fs : List Value} {v : Value} (hE : GE p c meth s args m g own cc nL ret) (hc : GCls C T N ci ty0) (hf : GFld own idx T k N) (hP : gP g ws H) (hD : va_D A ws) (hS : va_S A H0 H locs) (q0 : Nat) (he : ws[q0]? = some (a, .inr (ci, fs))) (hfin : (T k).2.2.2 = false) (hn : narrow (ty0 k) v = v) (hfit : fits (ty0 k) v = true) (hl : k < fs.length) (ws' : va_W) (hws : ws.set q0 (a, .inr (ci, fs.set k v)) = ws') (hd : decode cc pc = .ok (.putfield idx, 3))
    (kk : ∀ (H1 : Heap) (locs1 : List Loc), gP g ws' H1 → va_D A ws' → va_S A H0 H1 locs1 → W p l e R s m args below meth c H1 locs1 cells slots Q (F0 m (pc + 3) ls rest)) : W p l e R s m args below meth c H locs cells slots Q (F0 m pc ls (v :: .ref a :: rest)) := by
  subst hws
  exact va_put hE.1 hE.2.1 hE.2.2.2.2.2.2.1 hc.2.1 ty0 hc.2.2.1 hc.2.2.2 hE.2.2.2.2.2.1 hE.2.2.2.2.2.2.2.1 hP hD hS q0 he hc.1 k hf.1 (hE.2.2.2.2.2.2.1 _ hf.2) (fun _ h => h) hfin (hc.2.2.1 k hf.1) hn hfit hl hd kk
-- arrays
theorem g_iald {a n : Nat} {f : Nat → Int32} {i : Int32} (hE : GE p c meth s args m g own cc nL ret) (hP : gP g ws H) (q0 : Nat) (he : ws[q0]? = some (a, .inl (g.2.1, n, .inl f))) (hin : inb i n) (hd : decode cc pc = .ok (.iaload, 1))
    (kk : W p l e R s m args below meth c H locs cells slots Q (F0 m (pc + 1) ls (.int (f (ix i)) :: rest))) : W p l e R s m args below meth c H locs cells slots Q (F0 m pc ls (.int i :: .ref a :: rest)) :=
  va_iald hE.1 hE.2.1 hE.2.2.2.2.2.2.2.1 hP q0 0 he rfl hin hd kk
theorem g_bald {a n : Nat} {f : Nat → Int32} {i : Int32} (hE : GE p c meth s args m g own cc nL ret) (hP : gP g ws H) (q0 : Nat) (he : ws[q0]? = some (a, .inl (g.2.2.2, n, .inl f))) (hin : inb i n) (hd : decode cc pc = .ok (.baload, 1))
    (kk : W p l e R s m args below meth c H locs cells slots Q (F0 m (pc + 1) ls (.int (f (ix i)) :: rest))) : W p l e R s m args below meth c H locs cells slots Q (F0 m pc ls (.int i :: .ref a :: rest)) :=
  va_bald hE.1 hE.2.1 hE.2.2.2.2.2.2.2.1 hP q0 2 he rfl hin hd kk
theorem g_lald {a n : Nat} {f : Nat → Int64} {i : Int32} (hE : GE p c meth s args m g own cc nL ret) (hP : gP g ws H) (q0 : Nat) (he : ws[q0]? = some (a, .inl (g.2.2.1, n, .inr (.inl f)))) (hin : inb i n) (hd : decode cc pc = .ok (.laload, 1))
    (kk : W p l e R s m args below meth c H locs cells slots Q (F0 m (pc + 1) ls (.long (f (ix i)) :: rest))) : W p l e R s m args below meth c H locs cells slots Q (F0 m pc ls (.int i :: .ref a :: rest)) :=
  va_lald hE.1 hE.2.1 hE.2.2.2.2.2.2.2.1 hP q0 1 he rfl hin hd kk
theorem g_iast {a n : Nat} {f : Nat → Int32} {i x : Int32} (hE : GE p c meth s args m g own cc nL ret) (hP : gP g ws H) (hD : va_D A ws) (hS : va_S A H0 H locs) (q0 : Nat) (he : ws[q0]? = some (a, .inl (g.2.1, n, .inl f))) (hin : inb i n) (ws' : va_W) (hws : ws.set q0 (a, .inl (g.2.1, n, .inl (upd f (ix i) x))) = ws') (hd : decode cc pc = .ok (.iastore, 1))
    (kk : ∀ (H1 : Heap) (locs1 : List Loc), gP g ws' H1 → va_D A ws' → va_S A H0 H1 locs1 → W p l e R s m args below meth c H1 locs1 cells slots Q (F0 m (pc + 1) ls rest)) : W p l e R s m args below meth c H locs cells slots Q (F0 m pc ls (.int x :: .int i :: .ref a :: rest)) := by
  subst hws
  exact va_iast hE.1 hE.2.1 hE.2.2.2.2.2.2.2.1 hP hD hS q0 0 he rfl hin hd kk
theorem g_bast {a n : Nat} {f : Nat → Int32} {i x : Int32} (hE : GE p c meth s args m g own cc nL ret) (hP : gP g ws H) (hD : va_D A ws) (hS : va_S A H0 H locs) (q0 : Nat) (he : ws[q0]? = some (a, .inl (g.2.2.2, n, .inl f))) (hin : inb i n) (ws' : va_W) (hws : ws.set q0 (a, .inl (g.2.2.2, n, .inl (upd f (ix i) (vp_nar .byte x)))) = ws') (hd : decode cc pc = .ok (.bastore, 1))
    (kk : ∀ (H1 : Heap) (locs1 : List Loc), gP g ws' H1 → va_D A ws' → va_S A H0 H1 locs1 → W p l e R s m args below meth c H1 locs1 cells slots Q (F0 m (pc + 1) ls rest)) : W p l e R s m args below meth c H locs cells slots Q (F0 m pc ls (.int x :: .int i :: .ref a :: rest)) := by
  subst hws
  exact va_bast hE.1 hE.2.1 hE.2.2.2.2.2.2.2.1 hP hD hS q0 2 he rfl hin hd kk
theorem g_last {a n : Nat} {f : Nat → Int64} {i : Int32} {x : Int64} (hE : GE p c meth s args m g own cc nL ret) (hP : gP g ws H) (hD : va_D A ws) (hS : va_S A H0 H locs) (q0 : Nat) (he : ws[q0]? = some (a, .inl (g.2.2.1, n, .inr (.inl f)))) (hin : inb i n) (ws' : va_W) (hws : ws.set q0 (a, .inl (g.2.2.1, n, .inr (.inl (vp_updL f (ix i) x)))) = ws') (hd : decode cc pc = .ok (.lastore, 1))
    (kk : ∀ (H1 : Heap) (locs1 : List Loc), gP g ws' H1 → va_D A ws' → va_S A H0 H1 locs1 → W p l e R s m args below meth c H1 locs1 cells slots Q (F0 m (pc + 1) ls rest)) : W p l e R s m args below meth c H locs cells slots Q (F0 m pc ls (.long x :: .int i :: .ref a :: rest)) := by
  subst hws
  exact va_last hE.1 hE.2.1 hE.2.2.2.2.2.2.2.1 hP hD hS q0 1 he rfl hin hd kk
theorem g_alen {a : Nat} {cA : ClassId} {x : vp_A} {v : Int32} (hE : GE p c meth s args m g own cc nL ret) (hP : gP g ws H) (q0 t0 : Nat) (he : ws[q0]? = some (a, .inl (cA, x))) {ty : FieldType} (ht : (gT g)[t0]? = some (cA, ty)) (hv : Int32.ofNat x.1 = v) (hd : decode cc pc = .ok (.arraylength, 1))
    (kk : W p l e R s m args below meth c H locs cells slots Q (F0 m (pc + 1) ls (.int v :: rest))) : W p l e R s m args below meth c H locs cells slots Q (F0 m pc ls (.ref a :: rest)) :=
  va_alen hE.1 hE.2.1 hE.2.2.2.2.2.2.2.1 hP q0 t0 he ht hv hd kk
-- calls: what the tables owe
theorem goodTC {y : MethodName} {cc : ByteArray} {nL : Nat} {ret : Option FieldType} (h : Cond.code y cc nL ret ∈ TBL) : GoodIn TBL (Cond.code y cc nL ret :: TBL) := fun w hw => (List.mem_cons.mp hw).elim (fun q => by rw [q]; exact good_tbl _ h) (fun q => good_tbl _ q)
theorem gblindR {g : GK} {av : List Value} {w0 : va_W} : FrameBlind (gPr g av w0) := fun a U _ mk q => ⟨q.1, q.2.1, q.2.2.call _ mk a⟩
theorem gblindM {g : GK} {av : List Value} {w0 : va_W} {sz : Nat} : FrameBlind (gPm g av w0 sz) := fun a U _ mk q => ⟨q.1, q.2.1, q.2.2.1, q.2.2.2.1.call _ mk a, q.2.2.2.2⟩
variable {y : MethodName} {cy : ByteArray} {nLy : Nat} {rety : Option FieldType} {rmy : Room} {n idx : Nat} {As : List Value} {w0 : va_W} {b : Nat}
theorem gr_goes {rv : Option Value} {a : Array Value} {st0 st1 : List Value} (hr : CallRun p l e R s m args below meth c H locs cells slots 0 0 (F0 m pc ls st0) rest (gQr rv a) (fun _ => False)) (h1 : rv.toList ++ rest = st1)
    (kk : W p l e R s m args below meth c H locs cells slots Q (F0 m (pc + 3) ls st1)) : W p l e R s m args below meth c H locs cells slots Q (F0 m pc ls st0) := by
  subst h1
  intro T hT X
  obtain ⟨v, st₀, t, T', L, h0, X', hL, e1, ⟨hv, hh⟩, st⟩ := hr T hT X
  cases hv
  obtain ⟨t2, a1, b1⟩ := kk T' (by rw [e1, hh, h0]) (Stand.forget X' (fun q h => (hL q h).elim))
  exact ⟨t2, st t2 a1, b1⟩
theorem callRun_of {mc ms : Nat} {gf : JFrame} {Qa : State → Outcome → State → Prop} {free : Addr → Prop} (h : va_Run p l e R s m args below meth c H locs cells slots mc ms gf rest Qa free) : CallRun p l e R s m args below meth c H locs cells slots mc ms gf rest Qa free := by
  intro T hT X
  obtain ⟨v, st₀, t, T', L, h0, X', hL, e1, -, hq, st⟩ := h T hT X
  exact ⟨v, st₀, t, T', L, h0, X', hL, e1, hq, st⟩
theorem gr_callV {rv : Option Value} {st0 st1 : List Value} {ci : Nat} {fs : List Value} {T : u_T} {N : Nat} {ty0 : Nat → FieldType} (hE : GE p c meth s args m g own cc nL ret) (hls : ls.size = nL) (hC : GCV own idx y cy nLy rety n) (hM : gR l y cy nLy rety rmy g (.ref b :: As) w0 rv)
    (hP : gP g ws H) (is : List Nat) (hw : is.filterMap (fun i => ws[i]?) = w0) (hc : GCls y.cls T N ci ty0) (he : w0[0]? = some (b, .inr (ci, fs))) (hn : As.length = n) (hst : st0 = As.reverse ++ .ref b :: rest) (h1 : rv.toList ++ rest = st1) (hrm : rmy.cells = 0 ∧ rmy.slots = 0) (hR : rmy.frames + 1 ≤ R.frames ∧ 8 + (nLy + 11) + rmy.locals ≤ R.locals) (hcs : cells ≤ R.cells ∧ slots ≤ R.slots) (hroom : (rest.map fun v => v.category).sum ≤ 8) (hd : decode cc pc = .ok (.invokevirtual idx, 3))
    (kk : W p l e R s m args below meth c H locs cells slots Q (F0 m (pc + 3) ls st1)) : W p l e R s m args below meth c H locs cells slots Q (F0 m pc ls st0) := by
  have hP0 : gP g w0 H := va_P.sub hP is hw
  have ht := hE.2.2.2.2.2.2.1
  have cw : CallW R s args own y.cls idx y cy nLy rety (Cond.code y cy nLy rety :: TBL) rmy 0 0 n := ⟨callB_of n ht (goodTC hC.2.2.2.2.1) rfl hrm.1 hrm.2 (ht _ hC.2.2.2.1) (ht _ hC.1) hC.2.2.2.2.2 hR, ht _ hC.2.1, ht _ hC.2.2.1⟩
  refine gr_goes (W.runV (Ts := TBL) (own := own) (C := y.cls) ⟨hE.1, hE.2.1, hE.2.2.2.2.1, hE.2.2.2.2.2.1, ht⟩ hM cw ⟨gblindR, va_recv hE.2.2.2.2.2.2.2.1 hP0 hc.1 he, fun U hU hW => ⟨rfl, by rw [hU]; exact hP0, hE.2.2.2.2.2.2.2.warm hW⟩⟩ rfl hn hls hst (lv_room hroom) hd hcs) h1 kk
theorem gr_callS {rv : Option Value} {st0 st1 : List Value} (hE : GE p c meth s args m g own cc nL ret) (hls : ls.size = nL) (hC : GCS own idx y cy nLy rety n) (hM : gR l y cy nLy rety rmy g As w0 rv)
    (hP : gP g ws H) (is : List Nat) (hw : is.filterMap (fun i => ws[i]?) = w0) (hn : As.length = n) (hst : st0 = As.reverse ++ rest) (h1 : rv.toList ++ rest = st1) (hrm : rmy.cells = 0 ∧ rmy.slots = 0) (hR : rmy.frames + 1 ≤ R.frames ∧ 8 + (nLy + 11) + rmy.locals ≤ R.locals) (hcs : cells ≤ R.cells ∧ slots ≤ R.slots) (hroom : (rest.map fun v => v.category).sum ≤ 8) (hd : decode cc pc = .ok (.invokestatic idx, 3))
    (kk : W p l e R s m args below meth c H locs cells slots Q (F0 m (pc + 3) ls st1)) : W p l e R s m args below meth c H locs cells slots Q (F0 m pc ls st0) := by
  have hP0 : gP g w0 H := va_P.sub hP is hw
  have ht := hE.2.2.2.2.2.2.1
  have cw : CallB R s args own idx y cy nLy rety (Cond.code y cy nLy rety :: TBL) rmy 0 0 n ∧ (Cond.static y).before args s = true := ⟨callB_of n ht (goodTC hC.2.2.2.1) rfl hrm.1 hrm.2 (ht _ hC.2.2.1) (ht _ hC.1) hC.2.2.2.2 hR, ht _ hC.2.1⟩
  refine gr_goes (W.runS (Ts := TBL) (own := own) ⟨hE.1, hE.2.1, hE.2.2.2.2.1, hE.2.2.2.2.2.1, ht⟩ hM cw ⟨gblindR, fun U hU hW => ⟨rfl, by rw [hU]; exact hP0, hE.2.2.2.2.2.2.2.warm hW⟩⟩ rfl hn hls hst (lv_room hroom) hd hcs) h1 kk
theorem gcn {host : String} {mc ms : Nat} (ht : ∀ w ∈ TBL, w.before args s = true) (hk : gK g s) (h0 : (own, idx, y, host) ∈ nst) (hi : Cond.initialized y.cls ∈ TBL) (hc : Cond.code y cy nLy rety ∈ TBL) (hd : GDesc y n) (hrm : rmy.cells = mc ∧ rmy.slots = ms) (hR : rmy.frames + 1 ≤ R.frames ∧ 8 + (nLy + 11) + rmy.locals ≤ R.locals) : va_CN R s args own idx y host cy nLy rety (Cond.code y cy nLy rety :: TBL) rmy mc ms n :=
  ⟨⟨hrm.1, hrm.2, hR.1, hR.2, pay_in ht (goodTC hc), List.mem_cons_self⟩, ht _ hc, ht _ hi, ⟨hd.1, hd.2.1⟩, fun sig h => by have h2 := hd.2.2; rw [h] at h2; exact (Option.some.inj h2).symm, va_Nw.use rfl (hk.2 _ h0)⟩
theorem gr_callN {rv : Option Value} {st0 st1 : List Value} {host : String} (hE : GE p c meth s args m g own cc nL ret) (hls : ls.size = nL) (hC : GCN own idx y host cy nLy rety n) (hM : gR l y cy nLy rety rmy g As w0 rv)
    (hP : gP g ws H) (is : List Nat) (hw : is.filterMap (fun i => ws[i]?) = w0) (hn : As.length = n) (hst : st0 = As.reverse ++ rest) (h1 : rv.toList ++ rest = st1) (hrm : rmy.cells = 0 ∧ rmy.slots = 0) (hR : rmy.frames + 1 ≤ R.frames ∧ 8 + (nLy + 11) + rmy.locals ≤ R.locals) (hcs : cells ≤ R.cells ∧ slots ≤ R.slots) (hroom : (rest.map fun v => v.category).sum ≤ 8) (hd : decode cc pc = .ok (.invokestatic idx, 3))
    (kk : W p l e R s m args below meth c H locs cells slots Q (F0 m (pc + 3) ls st1)) : W p l e R s m args below meth c H locs cells slots Q (F0 m pc ls st0) := by
  have hP0 : gP g w0 H := va_P.sub hP is hw
  have ht := hE.2.2.2.2.2.2.1
  refine gr_goes (callRun_of (va_runSN (Ts := TBL) (own := own) (host := host) ⟨hE.1, hE.2.1, hE.2.2.2.2.1, hE.2.2.2.2.2.1, ht⟩ hM ⟨gcn ht hE.2.2.2.2.2.2.2 hC.1 hC.2.2.1 hC.2.2.2.1 hC.2.2.2.2 hrm hR, ht _ hC.2.1, trivial⟩ ⟨gblindR, fun U hU hW => ⟨rfl, by rw [hU]; exact hP0, hE.2.2.2.2.2.2.2.warm hW⟩⟩ rfl hn hls hst (lv_room hroom) hd hcs)) h1 kk
/-- behind a call that writes: the callee's world in its place -/
theorem gm_goes {X : Type} {rv : X → Option Value} {w1 ws' : X → va_W} {a : Array Value} {st0 : List Value} {st1 : X → List Value} {mc ms : Nat} (hr : va_Run p l e R s m args below meth c H locs cells slots mc ms (F0 m pc ls st0) rest (gQm g rv w1 (va_A w0 H.size) a) (va_A w0 H.size))
    (hP : gP g ws H) (hD : va_D A ws) (hS : va_S A H0 H locs) (hA : ∀ q : Nat, H0.size ≤ q → A q) (isC isR pm : List Nat) (hC : isC.map (fun i => ws[i]?) = w0.map some) (hRr : isR.map (fun i => ws[i]?) = (isR.filterMap (fun i => ws[i]?)).map some) (hn : va_nd isR = true) (hdis : ∀ i ∈ isR, i ∉ isC)
    (hws : ∀ x, pm.map (fun i => ((isR.filterMap (fun i => ws[i]?)) ++ w1 x)[i]?) = (ws' x).map some) (hnp : va_nd pm = true) (h1 : ∀ x, (rv x).toList ++ rest = st1 x)
    (kk : ∀ (x : X) (H1 : Heap) (locs1 : List Loc), gP g (ws' x) H1 → va_D A (ws' x) → va_S A H0 H1 locs1 → W p l e R s m args below meth c H1 locs1 (cells + mc) (slots + ms) Q (F0 m (pc + 3) ls (st1 x))) : W p l e R s m args below meth c H locs cells slots Q (F0 m pc ls st0) := by
  intro T hT X0
  obtain ⟨v, st₀, t, T', L, h0, X', hL, e1, e2, ⟨⟨x, hv, hP1, hD1⟩, hz, hk⟩, st⟩ := hr T hT X0
  cases hv
  rw [h0] at hz hk
  have hF := va_free hD hS hA isC hC
  obtain ⟨hPj, hDj⟩ := va_join hP hD isC isR hC hRr hn hdis hk hF hP1 hD1
  have hPw : gP g (ws' x) t.heap := by
    refine va_P.sub hPj pm ?_
    have := congrArg (List.filterMap (id : Option (Nat × va_E) → _)) (hws x)
    rw [List.filterMap_map, List.filterMap_map] at this
    simpa [Function.comp_def] using this
  have hDw : va_D A (ws' x) := hDj.sub pm hnp (hws x)
  have hS1 : va_S A H0 T'.heap (locs ++ L) := ⟨Nat.le_trans hS.1 (by rw [e1]; exact hz), fun q h1 h2 => by rw [e1, hk q (Nat.lt_of_lt_of_le h1 hS.1) (fun z => h2 (hF q z))]; exact hS.2.1 q h1 h2, fun q hq => by
      rcases List.mem_append.mp hq with h | h
      · exact hS.2.2 q h
      · exact hF _ (hL q h)⟩
  obtain ⟨t2, a1, b1⟩ := kk x T'.heap (locs ++ L) (by rw [e1]; exact hPw) hDw hS1 T' rfl X'
  rw [← h1 x] at a1
  exact ⟨t2, st t2 a1, b1⟩
theorem gm_callV {X : Type} {rv : X → Option Value} {w1 ws' : X → va_W} {st0 : List Value} {st1 : X → List Value} {mc ms ci : Nat} {fs : List Value} {T : u_T} {N : Nat} {ty0 : Nat → FieldType} (hE : GE p c meth s args m g own cc nL ret) (hls : ls.size = nL) (hC : GCV own idx y cy nLy rety n) (hM : gM l y cy nLy rety rmy g (.ref b :: As) w0 rv w1 mc ms)
    (hP : gP g ws H) (hD : va_D A ws) (hS : va_S A H0 H locs) (hA : ∀ q : Nat, H0.size ≤ q → A q) (isC isR pm : List Nat) (hCi : isC.map (fun i => ws[i]?) = w0.map some) (hw : isC.filterMap (fun i => ws[i]?) = w0) (hnC : va_nd isC = true) (hRr : isR.map (fun i => ws[i]?) = (isR.filterMap (fun i => ws[i]?)).map some) (hnR : va_nd isR = true) (hdis : ∀ i ∈ isR, i ∉ isC)
    (hws : ∀ x, pm.map (fun i => ((isR.filterMap (fun i => ws[i]?)) ++ w1 x)[i]?) = (ws' x).map some) (hnp : va_nd pm = true) (hc : GCls y.cls T N ci ty0) (he : w0[0]? = some (b, .inr (ci, fs))) (hn : As.length = n) (hst : st0 = As.reverse ++ .ref b :: rest) (h1 : ∀ x, (rv x).toList ++ rest = st1 x) (hrm : rmy.cells = mc ∧ rmy.slots = ms) (hR : rmy.frames + 1 ≤ R.frames ∧ 8 + (nLy + 11) + rmy.locals ≤ R.locals) (hcs : cells + mc ≤ R.cells ∧ slots + ms ≤ R.slots) (hroom : (rest.map fun v => v.category).sum ≤ 8) (hd : decode cc pc = .ok (.invokevirtual idx, 3))
    (kk : ∀ (x : X) (H1 : Heap) (locs1 : List Loc), gP g (ws' x) H1 → va_D A (ws' x) → va_S A H0 H1 locs1 → W p l e R s m args below meth c H1 locs1 (cells + mc) (slots + ms) Q (F0 m (pc + 3) ls (st1 x))) : W p l e R s m args below meth c H locs cells slots Q (F0 m pc ls st0) := by
  have hP0 : gP g w0 H := va_P.sub hP isC hw
  have hD0 : va_D A w0 := hD.sub isC hnC hCi
  have ht := hE.2.2.2.2.2.2.1
  have cw : CallW R s args own y.cls idx y cy nLy rety (Cond.code y cy nLy rety :: TBL) rmy mc ms n := ⟨callB_of n ht (goodTC hC.2.2.2.2.1) rfl hrm.1 hrm.2 (ht _ hC.2.2.2.1) (ht _ hC.1) hC.2.2.2.2.2 hR, ht _ hC.2.1, ht _ hC.2.2.1⟩
  exact gm_goes (va_runV (Ts := TBL) (own := own) (C := y.cls) ⟨hE.1, hE.2.1, hE.2.2.2.2.1, hE.2.2.2.2.2.1, ht⟩ (hM H.size) cw ⟨gblindM, va_recv hE.2.2.2.2.2.2.2.1 hP0 hc.1 he, fun U hU hW => ⟨rfl, by rw [hU], by rw [hU]; exact hP0, hE.2.2.2.2.2.2.2.warm hW, hD0.weaken (fun _ _ _ _ => trivial)⟩⟩ rfl hn hls hst (lv_room hroom) hd hcs) hP hD hS hA isC isR pm hCi hRr hnR hdis hws hnp h1 kk
theorem g_ldcw {idx : Nat} {v : Int32} (hE : GE p c meth s args m g own cc nL ret) (hk : Cond.constant own idx v ∈ TBL) (hd : decode cc pc = .ok (.ldc_w idx, 3)) (kk : W p l e R s m args below meth c H locs cells slots Q (F0 m (pc + 3) ls (.int v :: rest))) : W p l e R s m args below meth c H locs cells slots Q (F0 m pc ls rest) :=
  lv_ldcw hE.1 hE.2.1 hE.2.2.2.2.2.1 (hE.2.2.2.2.2.2.1 _ hk) hd kk
theorem g_swIn {x k : Int32} {dflt lo hi off : Int} {offs : Array Int} {len tgt : Nat} (hE : GE p c meth s args m g own cc nL ret) (hxk : x = k) (hd : decode cc pc = .ok (.tableswitch dflt lo hi offs, len)) (kI : Int) (hb : (¬ kI < lo) ∧ ¬ hi < kI) (hk : k.toInt = kI) (ho : offs[(kI - lo).toNat]? = some off) (ht : (pc : Int) + off = (tgt : Int))
    (kk : W p l e R s m args below meth c H locs cells slots Q (F0 m tgt ls rest)) : W p l e R s m args below meth c H locs cells slots Q (F0 m pc ls (.int x :: rest)) := by
  subst hxk; subst hk
  exact lv_tableIn hE.1 hE.2.1 hd hb.1 hb.2 ho ht kk
theorem g_mmax {idx : Nat} {x y : Int32} (hE : GE p c meth s args m g own cc nL ret) (hls : ls.size = nL) (hk : Cond.methodLink own idx Lib.Math.max.name ∈ TBL) (hfr : 1 ≤ R.frames) (hlo : (rest.map fun v => v.category).sum + 13 ≤ R.locals) (hcs : cells ≤ R.cells ∧ slots ≤ R.slots) (hd : decode cc pc = .ok (.invokestatic idx, 3))
    (kk : W p l e R s m args below meth c H locs cells slots Q (F0 m (pc + 3) ls (.int (if x < y then y else x) :: rest))) : W p l e R s m args below meth c H locs cells slots Q (F0 m pc ls (.int y :: .int x :: rest)) :=
  va_mmax hE.1 hE.2.1 (hE.2.2.2.2.1.trans hls.symm) hE.2.2.2.2.2.1 (hE.2.2.2.2.2.2.1 _ hk) (hE.2.2.2.2.2.2.1 _ kmx_s) (hE.2.2.2.2.2.2.1 _ km_i) (hE.2.2.2.2.2.2.1 _ kmx_c) hfr hlo hcs.1 hcs.2 hd kk
theorem g_mmin {idx : Nat} {x y : Int32} (hE : GE p c meth s args m g own cc nL ret) (hls : ls.size = nL) (hk : Cond.methodLink own idx Lib.Math.min.name ∈ TBL) (hfr : 1 ≤ R.frames) (hlo : (rest.map fun v => v.category).sum + 13 ≤ R.locals) (hcs : cells ≤ R.cells ∧ slots ≤ R.slots) (hd : decode cc pc = .ok (.invokestatic idx, 3))
    (kk : W p l e R s m args below meth c H locs cells slots Q (F0 m (pc + 3) ls (.int (if y < x then y else x) :: rest))) : W p l e R s m args below meth c H locs cells slots Q (F0 m pc ls (.int y :: .int x :: rest)) :=
  va_mmin hE.1 hE.2.1 (hE.2.2.2.2.1.trans hls.symm) hE.2.2.2.2.2.1 (hE.2.2.2.2.2.2.1 _ hk) (hE.2.2.2.2.2.2.1 _ kmn_s) (hE.2.2.2.2.2.2.1 _ km_i) (hE.2.2.2.2.2.2.1 _ kmn_c) hfr hlo hcs.1 hcs.2 hd kk
theorem g_copyi {idx a a1 n0 n1 : Nat} {f f2 : Nat → Int32} {sp dp n : Int32} (hE : GE p c meth s args m g own cc nL ret) (hls : ls.size = nL) (hk : Cond.methodLink own idx arraycopyName ∈ TBL) (hP : gP g ws H) (hD : va_D A ws) (hS : va_S A H0 H locs) (q0 q1 : Nat) (he : ws[q0]? = some (a, .inl (g.2.1, n0, .inl f))) (he1 : ws[q1]? = some (a1, .inl (g.2.1, n1, .inl f2))) (hg : cpok sp dp n n0 n1) (hfr : 1 ≤ R.frames) (hlo : (rest.map fun v => v.category).sum + (nativeFrameWords "java/lang/System" "arraycopy" 5 + 11) ≤ R.locals) (ws' : va_W) (hws : ws.set q1 (a1, .inl (g.2.1, n1, .inl (va_cpy f f2 (ix sp) (ix dp) (ix n)))) = ws') (hd : decode cc pc = .ok (.invokestatic idx, 3))
    (kk : ∀ (H1 : Heap) (locs1 : List Loc), gP g ws' H1 → va_D A ws' → va_S A H0 H1 locs1 → W p l e R s m args below meth c H1 locs1 cells slots Q (F0 m (pc + 3) ls rest)) : W p l e R s m args below meth c H locs cells slots Q (F0 m pc ls (.int n :: .int dp :: .ref a1 :: .int sp :: .ref a :: rest)) := by
  subst hws
  exact va_copyi hE.1 hE.2.1 (hE.2.2.2.2.1.trans hls.symm) hE.2.2.2.2.2.1 (hE.2.2.2.2.2.2.1 _ hk) (hE.2.2.2.2.2.2.1 _ kcp_n) (hE.2.2.2.2.2.2.1 _ kcp_s) (hE.2.2.2.2.2.2.1 _ kcp_i) hE.2.2.2.2.2.2.2.1 hP hD hS q0 q1 0 0 he he1 rfl rfl rfl hg.1 hg.2.1 hg.2.2.1 hg.2.2.2.1 hg.2.2.2.2 (fun _ _ => rfl) hfr hlo hd kk
theorem g_copyl {idx a a1 n0 n1 : Nat} {f f2 : Nat → Int64} {sp dp n : Int32} (hE : GE p c meth s args m g own cc nL ret) (hls : ls.size = nL) (hk : Cond.methodLink own idx arraycopyName ∈ TBL) (hP : gP g ws H) (hD : va_D A ws) (hS : va_S A H0 H locs) (q0 q1 : Nat) (he : ws[q0]? = some (a, .inl (g.2.2.1, n0, .inr (.inl f)))) (he1 : ws[q1]? = some (a1, .inl (g.2.2.1, n1, .inr (.inl f2)))) (hg : cpok sp dp n n0 n1) (hfr : 1 ≤ R.frames) (hlo : (rest.map fun v => v.category).sum + (nativeFrameWords "java/lang/System" "arraycopy" 5 + 11) ≤ R.locals) (ws' : va_W) (hws : ws.set q1 (a1, .inl (g.2.2.1, n1, .inr (.inl (va_cpy f f2 (ix sp) (ix dp) (ix n))))) = ws') (hd : decode cc pc = .ok (.invokestatic idx, 3))
    (kk : ∀ (H1 : Heap) (locs1 : List Loc), gP g ws' H1 → va_D A ws' → va_S A H0 H1 locs1 → W p l e R s m args below meth c H1 locs1 cells slots Q (F0 m (pc + 3) ls rest)) : W p l e R s m args below meth c H locs cells slots Q (F0 m pc ls (.int n :: .int dp :: .ref a1 :: .int sp :: .ref a :: rest)) := by
  subst hws
  exact va_copyl hE.1 hE.2.1 (hE.2.2.2.2.1.trans hls.symm) hE.2.2.2.2.2.1 (hE.2.2.2.2.2.2.1 _ hk) (hE.2.2.2.2.2.2.1 _ kcp_n) (hE.2.2.2.2.2.2.1 _ kcp_s) (hE.2.2.2.2.2.2.1 _ kcp_i) hE.2.2.2.2.2.2.2.1 hP hD hS q0 q1 1 1 he he1 rfl rfl rfl hg.1 hg.2.1 hg.2.2.1 hg.2.2.2.1 hg.2.2.2.2 (fun _ _ => rfl) hfr hlo hd kk
theorem gm_callS {X : Type} {rv : X → Option Value} {w1 ws' : X → va_W} {st0 : List Value} {st1 : X → List Value} {mc ms : Nat} (hE : GE p c meth s args m g own cc nL ret) (hls : ls.size = nL) (hC : GCS own idx y cy nLy rety n) (hM : gM l y cy nLy rety rmy g As w0 rv w1 mc ms)
    (hP : gP g ws H) (hD : va_D A ws) (hS : va_S A H0 H locs) (hA : ∀ q : Nat, H0.size ≤ q → A q) (isC isR pm : List Nat) (hCi : isC.map (fun i => ws[i]?) = w0.map some) (hw : isC.filterMap (fun i => ws[i]?) = w0) (hnC : va_nd isC = true) (hRr : isR.map (fun i => ws[i]?) = (isR.filterMap (fun i => ws[i]?)).map some) (hnR : va_nd isR = true) (hdis : ∀ i ∈ isR, i ∉ isC)
    (hws : ∀ x, pm.map (fun i => ((isR.filterMap (fun i => ws[i]?)) ++ w1 x)[i]?) = (ws' x).map some) (hnp : va_nd pm = true) (hn : As.length = n) (hst : st0 = As.reverse ++ rest) (h1 : ∀ x, (rv x).toList ++ rest = st1 x) (hrm : rmy.cells = mc ∧ rmy.slots = ms) (hR : rmy.frames + 1 ≤ R.frames ∧ 8 + (nLy + 11) + rmy.locals ≤ R.locals) (hcs : cells + mc ≤ R.cells ∧ slots + ms ≤ R.slots) (hroom : (rest.map fun v => v.category).sum ≤ 8) (hd : decode cc pc = .ok (.invokestatic idx, 3))
    (kk : ∀ (x : X) (H1 : Heap) (locs1 : List Loc), gP g (ws' x) H1 → va_D A (ws' x) → va_S A H0 H1 locs1 → W p l e R s m args below meth c H1 locs1 (cells + mc) (slots + ms) Q (F0 m (pc + 3) ls (st1 x))) : W p l e R s m args below meth c H locs cells slots Q (F0 m pc ls st0) := by
  have hP0 : gP g w0 H := va_P.sub hP isC hw
  have hD0 : va_D A w0 := hD.sub isC hnC hCi
  have ht := hE.2.2.2.2.2.2.1
  have cw : CallB R s args own idx y cy nLy rety (Cond.code y cy nLy rety :: TBL) rmy mc ms n ∧ (Cond.static y).before args s = true := ⟨callB_of n ht (goodTC hC.2.2.2.1) rfl hrm.1 hrm.2 (ht _ hC.2.2.1) (ht _ hC.1) hC.2.2.2.2 hR, ht _ hC.2.1⟩
  exact gm_goes (va_runS (Ts := TBL) (own := own) ⟨hE.1, hE.2.1, hE.2.2.2.2.1, hE.2.2.2.2.2.1, ht⟩ (hM H.size) cw ⟨gblindM, fun U hU hW => ⟨rfl, by rw [hU], by rw [hU]; exact hP0, hE.2.2.2.2.2.2.2.warm hW, hD0.weaken (fun _ _ _ _ => trivial)⟩⟩ rfl hn hls hst (lv_room hroom) hd hcs) hP hD hS hA isC isR pm hCi hRr hnR hdis hws hnp h1 kk
end GW
