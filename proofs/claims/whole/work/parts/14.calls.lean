/-! generic rows: contracts of the two forms gR (reads only) and gM (writes its world), their starts, ends and calls -/
/-- the classes' numbers and slots; int[], long[], byte[]; where the constants lie -/
abbrev GK : Type := va_G × ClassId × ClassId × ClassId × (Nat → Nat)
abbrev gC (g : GK) : ClassId := g.2.1
def gT (g : GK) : List (ClassId × FieldType) := [(g.2.1, .int), (g.2.2.1, .long), (g.2.2.2.1, .byte)]
def strs : List (Nat × String) := [(138, "desk"), (155, "inner"), (157, "left"), (159, "right"), (161, "full"), (166, "keep"), (179, "late"), (143, "put"), (148, "back"), (150, "tick"), (184, "by"), (186, "at")]
def strL : List Nat := [4, 5, 4, 5, 4, 4, 4, 3, 4, 4, 2, 2]
def strB : List (List Int32) := [[100, 101, 115, 107], [105, 110, 110, 101, 114], [108, 101, 102, 116], [114, 105, 103, 104, 116], [102, 117, 108, 108], [107, 101, 101, 112], [108, 97, 116, 101], [112, 117, 116], [98, 97, 99, 107], [116, 105, 99, 107], [98, 121], [97, 116]]
def digT (j : Nat) : Int32 := nI (j / 10 + 48)
def digO (j : Nat) : Int32 := nI (j % 10 + 48)
/-- what the tables say, over which no step goes -/
def gK (g : GK) (U : State) : Prop := va_K g.1 vwCl (gT g) U ∧ (∀ q ∈ nst, va_Nw (.methodLinkNest q.1 q.2.1 q.2.2.1 q.2.2.2) U) ∧ (∀ (i : Nat) (q : Nat × String), strs[i]? = some q → vk_R RX9 q.1 q.2 (g.2.2.2.2 i) U) ∧ vk_R RX8 323 "no such KEY" (g.2.2.2.2 45) U
theorem gK.warm {g : GK} {s U : State} (h : gK g s) (hW : s.WarmedH U.vm) : gK g U := ⟨va_K.moved hW.alike h.1, fun q hq => va_Nw.warmM hW (h.2.1 q hq), fun i q hq => (h.2.2.1 i q hq).warm hW, h.2.2.2.warm hW⟩
theorem gK.call {g : GK} {U : State} (h : gK g U) (f : JFrame) (mk : MethodId) (a : Array Value) : gK g (U.calling f mk a) := ⟨va_K.moved (u := U) (Vm.Alike.refl U.vm) h.1, fun q hq => va_Nw.same rfl rfl (h.2.1 q hq), fun i q hq => (h.2.2.1 i q hq).same rfl, h.2.2.2.same rfl⟩
/-- the constants in the heap, which nobody of ours writes -/
def gZ (g : GK) (A : Nat → Prop) (U : State) (H : Heap) : Prop :=
  vk_S 12 strL strB (fun i => g.2.2.2.2 i) (fun i => g.2.2.2.2 (i + 20)) A U H ∧ va_Z "java/lang/String" "COMPACT_STRINGS" "Z" (.int 1) A U H ∧
  va_Z "java/lang/Integer" "DigitTens" "[B" (.ref (g.2.2.2.2 40)) A U H ∧ va_T .byte (g.2.2.2.2 40) 100 (fun j => .int (digT j)) A U H ∧
  va_Z "java/lang/Integer" "DigitOnes" "[B" (.ref (g.2.2.2.2 41)) A U H ∧ va_T .byte (g.2.2.2.2 41) 100 (fun j => .int (digO j)) A U H ∧
  vx_Zq Bundle.tN "UNASSIGNED_STACK" Bundle.steD A U H ∧ vx_Zq Bundle.tN "SUPPRESSED_SENTINEL" Bundle.listD A U H ∧
  va_Zq "jdk/internal/util/Preconditions" "SIOOBE_FORMATTER" "Ljava/util/function/BiFunction;" A U H
theorem gZ.moved {g : GK} {A : Nat → Prop} {u U : State} {H : Heap} (hv : u.vm.Alike U.vm) (h : gZ g A u H) : gZ g A U H := ⟨h.1.moved hv, h.2.1.moved hv, h.2.2.1.moved hv, h.2.2.2.1.moved hv, h.2.2.2.2.1.moved hv, h.2.2.2.2.2.1.moved hv, h.2.2.2.2.2.2.1.moved hv, h.2.2.2.2.2.2.2.1.moved hv, h.2.2.2.2.2.2.2.2.moved hv⟩
theorem gZ.kept {g : GK} {A : Nat → Prop} {U : State} {H H1 : Heap} (h : gZ g A U H) (hq : ∀ a : Nat, a < H.size → ¬ A a → H1[a]? = H[a]?) : gZ g A U H1 := ⟨h.1.kept hq, h.2.1.kept hq, h.2.2.1.kept hq, h.2.2.2.1.kept hq, h.2.2.2.2.1.kept hq, h.2.2.2.2.2.1.kept hq, h.2.2.2.2.2.2.1.kept hq, h.2.2.2.2.2.2.2.1.kept hq, h.2.2.2.2.2.2.2.2.kept hq⟩
theorem gZ.narrow {g : GK} {A B : Nat → Prop} {U : State} {H : Heap} (h : gZ g A U H) (hq : ∀ q, B q → A q) : gZ g B U H := ⟨h.1.narrow hq, h.2.1.narrow hq, h.2.2.1.narrow hq, h.2.2.2.1.narrow hq, h.2.2.2.2.1.narrow hq, h.2.2.2.2.2.1.narrow hq, h.2.2.2.2.2.2.1.narrow hq, h.2.2.2.2.2.2.2.1.narrow hq, h.2.2.2.2.2.2.2.2.narrow hq⟩
abbrev gN : Nat → Prop := fun _ => False
abbrev gP (g : GK) (w : va_W) (H : Heap) : Prop := va_P g.1 vwCl w H
abbrev inb (i : Int32) (n : Nat) : Prop := ¬ (i < 0 ∨ n ≤ i.toNatClampNeg)
abbrev isB (v : Int32) : Prop := v = 0 ∨ v = 1
abbrev ix (i : Int32) : Nat := i.toNatClampNeg
def GE (p : Program) (c : Code) (meth : Method) (s : State) (args : Array Value) (m : MethodId) (g : GK) (own : String) (cc : ByteArray) (nL : Nat) (ret : Option FieldType) : Prop :=
  p.tables.exec = Jvm.exec ∧ c.code = cc ∧ meth.sig.returnType = ret ∧ meth.locks = false ∧ c.maxLocals = nL ∧ s.vm.findClass own = some m.cls ∧ (∀ w ∈ TBL, w.before args s = true) ∧ gK g s
theorem gif_t {R : Type} {c : Prop} {i : Decidable c} {A B : Option R} {r : Option R} (hc : c) (h : @ite _ c i A B = r) : A = r := by rw [if_pos hc] at h; exact h
theorem gif_f {R : Type} {c : Prop} {i : Decidable c} {A B : Option R} {r : Option R} (hc : ¬ c) (h : @ite _ c i A B = r) : B = r := by rw [if_neg hc] at h; exact h
theorem ggd {R : Type} {c : Prop} {i : Decidable c} {A : Option R} {r : R} (h : @ite _ c i A none = some r) : c ∧ A = some r := by
  by_cases hc : c
  · rw [if_pos hc] at h; exact ⟨hc, h⟩
  · rw [if_neg hc] at h; cases h
theorem gbd {S R : Type} {o : Option S} {k : S → Option R} {r : R} (h : o.bind k = some r) : ∃ x, o = some x ∧ k x = some r := by
  cases o with
  | none => cases h
  | some x => exact ⟨x, rfl, h⟩
def glt {S R : Type} (v : S) (k : S → R) : R := k v
theorem gltd {S R : Type} {v : S} {k : S → R} {r : R} (h : glt v k = r) : ∃ x, x = v ∧ k x = r := ⟨v, rfl, h⟩
theorem isB_n {v : Int32} (h : isB v) : narrow .boolean (.int v) = .int v := by rcases h with rfl | rfl <;> rfl
theorem isB_f {v : Int32} (h : isB v) : fits .boolean (.int v) = true := by rcases h with rfl | rfl <;> rfl
def gQr (rv : Option Value) : Array Value → State → Outcome → State → Prop := fun _ st oc t => oc = .returned rv ∧ t.heap = st.heap
def gPr (g : GK) (av : List Value) (w0 : va_W) : Array Value → State → Prop := va_Pc av (fun U => gP g w0 U.heap ∧ gK g U ∧ gZ g gN U U.heap)
def gR (l : Launch) (y : MethodName) (cc : ByteArray) (nL : Nat) (ret : Option FieldType) (rm : Room) (g : GK) (av : List Value) (w0 : va_W) (rv : Option Value) : Prop :=
  Met l y (Cond.code y cc nL ret :: TBL) rm (gPr g av w0) (gQr rv) 0 0 (fun _ => False)
def gQm {X : Type} (g : GK) (rv : X → Option Value) (w1 : X → va_W) (A : Nat → Prop) : Array Value → State → Outcome → State → Prop := fun _ st oc t => (∃ x : X, oc = .returned (rv x) ∧ gP g (w1 x) t.heap ∧ va_D A (w1 x)) ∧ va_F A st t
def gPm (g : GK) (av : List Value) (w0 : va_W) (sz : Nat) : Array Value → State → Prop := va_Pc av (fun U => U.heap.size = sz ∧ gP g w0 U.heap ∧ gK g U ∧ va_D (fun _ => True) w0 ∧ gZ g (va_A w0 sz) U U.heap)
def gM {X : Type} (l : Launch) (y : MethodName) (cc : ByteArray) (nL : Nat) (ret : Option FieldType) (rm : Room) (g : GK) (av : List Value) (w0 : va_W) (rv : X → Option Value) (w1 : X → va_W) (mc ms : Nat) : Prop :=
  ∀ sz : Nat, Met l y (Cond.code y cc nL ret :: TBL) rm (gPm g av w0 sz) (gQm g rv w1 (va_A w0 sz)) mc ms (va_A w0 sz)
theorem gR_introI {l : Launch} {y : MethodName} {cc : ByteArray} {nL : Nat} {rm : Room} {g : GK} {av : List Value} {w0 : va_W} {rv : Option Value} (own : String) (hy : plainName y.cls = true) (ho : y.cls = own) (hlen : (lg_sl av).length ≤ nL)
    (body : ∀ (p : Program) (e : Env) (s : State) (m : MethodId) (args : Array Value) (below : List Frame) (meth : Method) (c : Code) (Q : State → Prop) (H : Heap) (locs : List Loc) (ls : Array Slot), GE p c meth s args m g own cc nL (some .int) → gP g w0 H → gZ g gN s s.heap → va_S gN s.heap H locs →
      (∀ {v : Int32} {pc : Nat} {ls : Array Slot}, rv = some (.int v) → decode cc pc = .ok (.ireturn, 1) → W p l e rm s m args below meth c H locs 0 0 Q (F0 m pc ls [.int v])) → lv_has ls nL (lv_args 0 av) →
      W p l e rm s m args below meth c H locs 0 0 Q (F0 m 0 ls [])) : gR l y cc nL (some .int) rm g av w0 rv := by
  refine Met.ofW (cc := cc) (maxL := nL) (ret := some .int) hy rfl ?_
  intro p e s m args below meth c s₁ B hml hv
  obtain ⟨rfl, hP, hK, hZ⟩ := hv
  have hts := atoms_spec (ws := Cond.code y cc nL (some .int) :: TBL) B.pre
  have hown : s.vm.findClass own = some m.cls := ho ▸ findClass_of_methodNamed B.named
  rw [lg_entry_eq]
  exact body p e s m _ below meth c _ _ _ _ ⟨B.exec, B.bytes, B.returns, B.notSynchronized, hml, hown, fun w h => hts w (List.mem_cons_of_mem _ h), hK⟩ hP hZ va_S.rf (fun h hd => W.iret B.exec B.bytes B.returns (fun t ht _ => ⟨by rw [h], ht⟩) (fun _ h => by cases h) hd B.notSynchronized) (lv_entry av hlen)
theorem gR_introZ {l : Launch} {y : MethodName} {cc : ByteArray} {nL : Nat} {rm : Room} {g : GK} {av : List Value} {w0 : va_W} {rv : Option Value} (own : String) (hy : plainName y.cls = true) (ho : y.cls = own) (hlen : (lg_sl av).length ≤ nL)
    (body : ∀ (p : Program) (e : Env) (s : State) (m : MethodId) (args : Array Value) (below : List Frame) (meth : Method) (c : Code) (Q : State → Prop) (H : Heap) (locs : List Loc) (ls : Array Slot), GE p c meth s args m g own cc nL (some .boolean) → gP g w0 H → gZ g gN s s.heap → va_S gN s.heap H locs →
      (∀ {v : Int32} {pc : Nat} {ls : Array Slot}, isB v → rv = some (.int v) → decode cc pc = .ok (.ireturn, 1) → W p l e rm s m args below meth c H locs 0 0 Q (F0 m pc ls [.int v])) → lv_has ls nL (lv_args 0 av) →
      W p l e rm s m args below meth c H locs 0 0 Q (F0 m 0 ls [])) : gR l y cc nL (some .boolean) rm g av w0 rv := by
  refine Met.ofW (cc := cc) (maxL := nL) (ret := some .boolean) hy rfl ?_
  intro p e s m args below meth c s₁ B hml hv
  obtain ⟨rfl, hP, hK, hZ⟩ := hv
  have hts := atoms_spec (ws := Cond.code y cc nL (some .boolean) :: TBL) B.pre
  have hown : s.vm.findClass own = some m.cls := ho ▸ findClass_of_methodNamed B.named
  rw [lg_entry_eq]
  exact body p e s m _ below meth c _ _ _ _ ⟨B.exec, B.bytes, B.returns, B.notSynchronized, hml, hown, fun w h => hts w (List.mem_cons_of_mem _ h), hK⟩ hP hZ va_S.rf (fun hb h hd => W.zret B.exec B.bytes B.returns (isB_n hb) (fun t ht _ => ⟨by rw [h], ht⟩) (fun _ h => by cases h) hd B.notSynchronized) (lv_entry av hlen)
theorem gM_introI {X : Type} {l : Launch} {y : MethodName} {cc : ByteArray} {nL : Nat} {rm : Room} {g : GK} {av : List Value} {w0 : va_W} {rv : X → Option Value} {w1 : X → va_W} {mc ms : Nat} (own : String) (hy : plainName y.cls = true) (ho : y.cls = own) (hlen : (lg_sl av).length ≤ nL)
    (body : ∀ (p : Program) (e : Env) (s : State) (m : MethodId) (args : Array Value) (below : List Frame) (meth : Method) (c : Code) (Q : State → Prop) (H : Heap) (locs : List Loc) (ls : Array Slot) (A : Nat → Prop), GE p c meth s args m g own cc nL (some .int) → gZ g A s s.heap → (∀ q : Nat, s.heap.size ≤ q → A q) → gP g w0 H → va_D A w0 → va_S A s.heap H locs →
      (∀ {H : Heap} {locs : List Loc} {v : Int32} {pc : Nat} {ls : Array Slot} (x : X), rv x = some (.int v) → gP g (w1 x) H → va_D A (w1 x) → va_S A s.heap H locs → decode cc pc = .ok (.ireturn, 1) → W p l e rm s m args below meth c H locs mc ms Q (F0 m pc ls [.int v])) → lv_has ls nL (lv_args 0 av) →
      W p l e rm s m args below meth c H locs 0 0 Q (F0 m 0 ls [])) : gM l y cc nL (some .int) rm g av w0 rv w1 mc ms := by
  intro sz
  refine Met.ofW (cc := cc) (maxL := nL) (ret := some .int) hy rfl ?_
  intro p e s m args below meth c s₁ B hml hv
  obtain ⟨rfl, hsz, hP, hK, hD0, hZ⟩ := hv
  subst hsz
  have hts := atoms_spec (ws := Cond.code y cc nL (some .int) :: TBL) B.pre
  have hown : s.vm.findClass own = some m.cls := ho ▸ findClass_of_methodNamed B.named
  rw [lg_entry_eq]
  exact body p e s m _ below meth c _ _ _ _ (va_A w0 s.heap.size) ⟨B.exec, B.bytes, B.returns, B.notSynchronized, hml, hown, fun w h => hts w (List.mem_cons_of_mem _ h), hK⟩ hZ (fun q h => Or.inr h) hP (hD0.self (sz := s.heap.size)) va_S.rf
    (fun x h hP hD hS hd => W.iret B.exec B.bytes B.returns (fun t ht _ => ⟨⟨x, by rw [h], by rw [ht]; exact hP, hD⟩, hS.F ht⟩) hS.2.2 hd B.notSynchronized) (lv_entry av hlen)
theorem gM_introZ {X : Type} {l : Launch} {y : MethodName} {cc : ByteArray} {nL : Nat} {rm : Room} {g : GK} {av : List Value} {w0 : va_W} {rv : X → Option Value} {w1 : X → va_W} {mc ms : Nat} (own : String) (hy : plainName y.cls = true) (ho : y.cls = own) (hlen : (lg_sl av).length ≤ nL)
    (body : ∀ (p : Program) (e : Env) (s : State) (m : MethodId) (args : Array Value) (below : List Frame) (meth : Method) (c : Code) (Q : State → Prop) (H : Heap) (locs : List Loc) (ls : Array Slot) (A : Nat → Prop), GE p c meth s args m g own cc nL (some .boolean) → gZ g A s s.heap → (∀ q : Nat, s.heap.size ≤ q → A q) → gP g w0 H → va_D A w0 → va_S A s.heap H locs →
      (∀ {H : Heap} {locs : List Loc} {v : Int32} {pc : Nat} {ls : Array Slot} (x : X), isB v → rv x = some (.int v) → gP g (w1 x) H → va_D A (w1 x) → va_S A s.heap H locs → decode cc pc = .ok (.ireturn, 1) → W p l e rm s m args below meth c H locs mc ms Q (F0 m pc ls [.int v])) → lv_has ls nL (lv_args 0 av) →
      W p l e rm s m args below meth c H locs 0 0 Q (F0 m 0 ls [])) : gM l y cc nL (some .boolean) rm g av w0 rv w1 mc ms := by
  intro sz
  refine Met.ofW (cc := cc) (maxL := nL) (ret := some .boolean) hy rfl ?_
  intro p e s m args below meth c s₁ B hml hv
  obtain ⟨rfl, hsz, hP, hK, hD0, hZ⟩ := hv
  subst hsz
  have hts := atoms_spec (ws := Cond.code y cc nL (some .boolean) :: TBL) B.pre
  have hown : s.vm.findClass own = some m.cls := ho ▸ findClass_of_methodNamed B.named
  rw [lg_entry_eq]
  exact body p e s m _ below meth c _ _ _ _ (va_A w0 s.heap.size) ⟨B.exec, B.bytes, B.returns, B.notSynchronized, hml, hown, fun w h => hts w (List.mem_cons_of_mem _ h), hK⟩ hZ (fun q h => Or.inr h) hP (hD0.self (sz := s.heap.size)) va_S.rf
    (fun x hb h hP hD hS hd => W.zret B.exec B.bytes B.returns (isB_n hb) (fun t ht _ => ⟨⟨x, by rw [h], by rw [ht]; exact hP, hD⟩, hS.F ht⟩) hS.2.2 hd B.notSynchronized) (lv_entry av hlen)
theorem gM_introV {X : Type} {l : Launch} {y : MethodName} {cc : ByteArray} {nL : Nat} {rm : Room} {g : GK} {av : List Value} {w0 : va_W} {rv : X → Option Value} {w1 : X → va_W} {mc ms : Nat} (own : String) (hy : plainName y.cls = true) (ho : y.cls = own) (hlen : (lg_sl av).length ≤ nL)
    (body : ∀ (p : Program) (e : Env) (s : State) (m : MethodId) (args : Array Value) (below : List Frame) (meth : Method) (c : Code) (Q : State → Prop) (H : Heap) (locs : List Loc) (ls : Array Slot) (A : Nat → Prop), GE p c meth s args m g own cc nL none → meth.name = y.name → gZ g A s s.heap → (∀ q : Nat, s.heap.size ≤ q → A q) → gP g w0 H → va_D A w0 → va_S A s.heap H locs →
      (∀ {H : Heap} {locs : List Loc} {pc : Nat} {ls : Array Slot} (x : X), rv x = none → gP g (w1 x) H → va_D A (w1 x) → va_S A s.heap H locs → decode cc pc = .ok (.return_, 1) → W p l e rm s m args below meth c H locs mc ms Q (F0 m pc ls [])) → lv_has ls nL (lv_args 0 av) →
      W p l e rm s m args below meth c H locs 0 0 Q (F0 m 0 ls [])) : gM l y cc nL none rm g av w0 rv w1 mc ms := by
  intro sz
  refine Met.ofW (cc := cc) (maxL := nL) (ret := none) hy rfl ?_
  intro p e s m args below meth c s₁ B hml hv
  obtain ⟨rfl, hsz, hP, hK, hD0, hZ⟩ := hv
  subst hsz
  have hts := atoms_spec (ws := Cond.code y cc nL none :: TBL) B.pre
  have hown : s.vm.findClass own = some m.cls := ho ▸ findClass_of_methodNamed B.named
  rw [lg_entry_eq]
  exact body p e s m _ below meth c _ _ _ _ (va_A w0 s.heap.size) ⟨B.exec, B.bytes, B.returns, B.notSynchronized, hml, hown, fun w h => hts w (List.mem_cons_of_mem _ h), hK⟩ (name_of_methodNamed B.named B.method).1 hZ (fun q h => Or.inr h) hP (hD0.self (sz := s.heap.size)) va_S.rf
    (fun x h hP hD hS hd => W.vret B.exec B.bytes B.returns (fun t ht _ => ⟨⟨x, by rw [h], by rw [ht]; exact hP, hD⟩, hS.F ht⟩) hS.2.2 hd B.notSynchronized) (lv_entry av hlen)
abbrev irem (x y : Int32) : Int32 := x - x / y * y
abbrev lrem (x y : Int64) : Int64 := x - x / y * y
abbrev cpok (sp dp n : Int32) (n0 n1 : Nat) : Prop := (¬ sp < 0) ∧ (¬ dp < 0) ∧ (¬ n < 0) ∧ ix sp + ix n ≤ n0 ∧ ix dp + ix n ≤ n1
theorem nti {x k32 : Int32} (h : ¬ x = k32) {k : Int} (hk : k32.toInt = k) : x.toInt ≠ k := fun e => h (Int32.toInt_inj.mp (e.trans hk.symm))
theorem kmx_s : Cond.static Lib.Math.max.name ∈ TBL := tb (in3 (List.mem_of_getElem? (i := 41) (by decide +kernel))) (by decide +kernel)
theorem kmx_c : Cond.code Lib.Math.max.name Lib.Math.max.code 2 (some .int) ∈ TBL := tb (in3 (List.mem_of_getElem? (i := 42) (by decide +kernel))) (by decide +kernel)
theorem kmn_s : Cond.static Lib.Math.min.name ∈ TBL := tb (in4 (List.mem_of_getElem? (i := 89) (by decide +kernel))) (by decide +kernel)
theorem kmn_c : Cond.code Lib.Math.min.name Lib.Math.min.code 2 (some .int) ∈ TBL := tb (in4 (List.mem_of_getElem? (i := 90) (by decide +kernel))) (by decide +kernel)
theorem km_i : Cond.initialized "java/lang/Math" ∈ TBL := tb (in1 (List.mem_of_getElem? (i := 13) (by decide +kernel))) (by decide +kernel)
theorem kcp_n : Cond.native arraycopyName ∈ TBL := tb (in3 (List.mem_of_getElem? (i := 35) (by decide +kernel))) (by decide +kernel)
theorem kcp_s : Cond.static arraycopyName ∈ TBL := tb (in3 (List.mem_of_getElem? (i := 34) (by decide +kernel))) (by decide +kernel)
theorem kcp_i : Cond.initialized "java/lang/System" ∈ TBL := tb (in1 (List.mem_of_getElem? (i := 12) (by decide +kernel))) (by decide +kernel)
theorem vaP_mem {D : va_G} {cl : List vw_C} {ws : va_W} {H : Heap} : va_P D cl ws H ↔ ∀ q ∈ ws, va_at D cl q H :=
  ⟨fun h q hq => by obtain ⟨k, hk⟩ := List.getElem?_of_mem hq; exact h k q hk, fun h k q hk => h q (List.mem_of_getElem? hk)⟩
theorem vaD_mem {A : Nat → Prop} {ws : va_W} : va_D A ws ↔ (ws.map Prod.fst).Nodup ∧ ∀ q ∈ ws, A q.1 := by
  constructor
  · intro h
    refine ⟨?_, fun q hq => by obtain ⟨k, hk⟩ := List.getElem?_of_mem hq; exact h.2 k q hk⟩
    rw [List.nodup_iff_pairwise_ne, List.pairwise_iff_getElem]
    intro i j hi hj hij heq
    rw [List.length_map] at hi hj
    rw [List.getElem_map, List.getElem_map] at heq
    have := h.1 i j ws[i] ws[j] (List.getElem?_eq_getElem hi) (List.getElem?_eq_getElem hj) heq
    omega
  · intro h
    refine ⟨fun i j p q hi hj hpq => ?_, fun k q hk => h.2 q (List.mem_of_getElem? hk)⟩
    have hi' : i < ws.length := (List.getElem?_eq_some_iff.mp hi).1
    have ei : (ws.map Prod.fst)[i]? = some p.1 := by rw [List.getElem?_map, hi]; rfl
    have ej : (ws.map Prod.fst)[j]? = some q.1 := by rw [List.getElem?_map, hj]; rfl
    exact (List.getElem?_inj (by rw [List.length_map]; exact hi') h.1).mp (by rw [ei, ej, hpq])
theorem vaP_seg {D : va_G} {cl : List vw_C} {ws w0 : va_W} {H : Heap} (h : va_P D cl ws H) (sg : List (Nat × Nat)) (hw : sg.flatMap (fun q => (ws.drop q.1).take q.2) = w0) : va_P D cl w0 H := by
  subst hw
  refine vaP_mem.mpr fun q hq => ?_
  obtain ⟨r, -, hr⟩ := List.mem_flatMap.mp hq
  exact vaP_mem.mp h q (List.mem_of_mem_drop (List.mem_of_mem_take hr))
section GW
variable {p : Program} {l : Launch} {e : Env} {R : Room} {s : State} {m : MethodId} {args : Array Value} {below : List Frame} {meth : Method} {c : Code} {H : Heap} {locs : List Loc} {cells slots : Nat} {Q : State → Prop}
variable {pc : Nat} {ls : Array Slot} {rest : List Value} {g : GK} {own : String} {cc : ByteArray} {nL : Nat} {ret : Option FieldType} {A : Nat → Prop} {H0 : Heap} {ws : va_W}
-- fields
theorem g_get {C : String} {T : u_T} {N ci k idx : Nat} {ty0 : Nat → FieldType} {a : Nat} {fs : List Value} {v : Value} (hE : GE p c meth s args m g own cc nL ret) (hc : GCls C T N ci ty0) (hf : GFld own idx T k N) (hP : gP g ws H) (q0 : Nat) (he : ws[q0]? = some (a, .inr (ci, fs))) (hv : fs[k]? = some v) (hd : decode cc pc = .ok (.getfield idx, 3))
    (kk : W p l e R s m args below meth c H locs cells slots Q (F0 m (pc + 3) ls (v :: rest))) : W p l e R s m args below meth c H locs cells slots Q (F0 m pc ls (.ref a :: rest)) :=
  va_get hE.1 hE.2.1 hE.2.2.2.2.2.2.1 hc.2.1 hE.2.2.2.2.2.1 hE.2.2.2.2.2.2.2.1 hP q0 he hc.1 k hf.1 (hE.2.2.2.2.2.2.1 _ hf.2) (fun _ h => h) hv hd kk
theorem g_put {C : String} {T : u_T} {N ci k idx : Nat} {ty0 : Nat → FieldType} {a : Nat} {fs : List Value} {v : Value} (hE : GE p c meth s args m g own cc nL ret) (hc : GCls C T N ci ty0) (hf : GFld own idx T k N) (hP : gP g ws H) (hD : va_D A ws) (hS : va_S A H0 H locs) (q0 : Nat) (he : ws[q0]? = some (a, .inr (ci, fs))) (hfin : (T k).2.2.2 = false) (hn : narrow (ty0 k) v = v) (hfit : fits (ty0 k) v = true) (hl : k < fs.length) (ws' : va_W) (hws : ws.set q0 (a, .inr (ci, fs.set k v)) = ws') (hd : decode cc pc = .ok (.putfield idx, 3))
    (kk : ∀ (H1 : Heap) (locs1 : List Loc), gP g ws' H1 → va_D A ws' → va_S A H0 H1 locs1 → W p l e R s m args below meth c H1 locs1 cells slots Q (F0 m (pc + 3) ls rest)) : W p l e R s m args below meth c H locs cells slots Q (F0 m pc ls (v :: .ref a :: rest)) := by
  subst hws
  exact va_put hE.1 hE.2.1 hE.2.2.2.2.2.2.1 hc.2.1 ty0 hc.2.2.1 hc.2.2.2 hE.2.2.2.2.2.1 hE.2.2.2.2.2.2.2.1 hP hD hS q0 he hc.1 k hf.1 (hE.2.2.2.2.2.2.1 _ hf.2) (fun _ h => h) hfin (hc.2.2.1 k hf.1) hn hfit hl hd kk
-- arrays
theorem g_iald {a n : Nat} {f : Nat → Int32} {i : Int32} (hE : GE p c meth s args m g own cc nL ret) (hP : gP g ws H) (q0 : Nat) (he : ws[q0]? = some (a, .inl (g.2.1, n, .inl f))) (hin : inb i n) (hd : decode cc pc = .ok (.iaload, 1))
    (kk : W p l e R s m args below meth c H locs cells slots Q (F0 m (pc + 1) ls (.int (f (ix i)) :: rest))) : W p l e R s m args below meth c H locs cells slots Q (F0 m pc ls (.int i :: .ref a :: rest)) :=
  va_iald hE.1 hE.2.1 hE.2.2.2.2.2.2.2.1 hP q0 0 he rfl hin hd kk
theorem g_bald {a n : Nat} {f : Nat → Int32} {i : Int32} (hE : GE p c meth s args m g own cc nL ret) (hP : gP g ws H) (q0 : Nat) (he : ws[q0]? = some (a, .inl (g.2.2.2.1, n, .inl f))) (hin : inb i n) (hd : decode cc pc = .ok (.baload, 1))
    (kk : W p l e R s m args below meth c H locs cells slots Q (F0 m (pc + 1) ls (.int (f (ix i)) :: rest))) : W p l e R s m args below meth c H locs cells slots Q (F0 m pc ls (.int i :: .ref a :: rest)) :=
  va_bald hE.1 hE.2.1 hE.2.2.2.2.2.2.2.1 hP q0 2 he rfl hin hd kk
theorem g_lald {a n : Nat} {f : Nat → Int64} {i : Int32} (hE : GE p c meth s args m g own cc nL ret) (hP : gP g ws H) (q0 : Nat) (he : ws[q0]? = some (a, .inl (g.2.2.1, n, .inr (.inl f)))) (hin : inb i n) (hd : decode cc pc = .ok (.laload, 1))
    (kk : W p l e R s m args below meth c H locs cells slots Q (F0 m (pc + 1) ls (.long (f (ix i)) :: rest))) : W p l e R s m args below meth c H locs cells slots Q (F0 m pc ls (.int i :: .ref a :: rest)) :=
  va_lald hE.1 hE.2.1 hE.2.2.2.2.2.2.2.1 hP q0 1 he rfl hin hd kk
theorem g_iast {a n : Nat} {f : Nat → Int32} {i x : Int32} (hE : GE p c meth s args m g own cc nL ret) (hP : gP g ws H) (hD : va_D A ws) (hS : va_S A H0 H locs) (q0 : Nat) (he : ws[q0]? = some (a, .inl (g.2.1, n, .inl f))) (hin : inb i n) (ws' : va_W) (hws : ws.set q0 (a, .inl (g.2.1, n, .inl (upd f (ix i) x))) = ws') (hd : decode cc pc = .ok (.iastore, 1))
    (kk : ∀ (H1 : Heap) (locs1 : List Loc), gP g ws' H1 → va_D A ws' → va_S A H0 H1 locs1 → W p l e R s m args below meth c H1 locs1 cells slots Q (F0 m (pc + 1) ls rest)) : W p l e R s m args below meth c H locs cells slots Q (F0 m pc ls (.int x :: .int i :: .ref a :: rest)) := by
  subst hws
  exact va_iast hE.1 hE.2.1 hE.2.2.2.2.2.2.2.1 hP hD hS q0 0 he rfl hin hd kk
theorem g_bast {a n : Nat} {f : Nat → Int32} {i x : Int32} (hE : GE p c meth s args m g own cc nL ret) (hP : gP g ws H) (hD : va_D A ws) (hS : va_S A H0 H locs) (q0 : Nat) (he : ws[q0]? = some (a, .inl (g.2.2.2.1, n, .inl f))) (hin : inb i n) (ws' : va_W) (hws : ws.set q0 (a, .inl (g.2.2.2.1, n, .inl (upd f (ix i) (vp_nar .byte x)))) = ws') (hd : decode cc pc = .ok (.bastore, 1))
    (kk : ∀ (H1 : Heap) (locs1 : List Loc), gP g ws' H1 → va_D A ws' → va_S A H0 H1 locs1 → W p l e R s m args below meth c H1 locs1 cells slots Q (F0 m (pc + 1) ls rest)) : W p l e R s m args below meth c H locs cells slots Q (F0 m pc ls (.int x :: .int i :: .ref a :: rest)) := by
  subst hws
  exact va_bast hE.1 hE.2.1 hE.2.2.2.2.2.2.2.1 hP hD hS q0 2 he rfl hin hd kk
theorem g_last {a n : Nat} {f : Nat → Int64} {i : Int32} {x : Int64} (hE : GE p c meth s args m g own cc nL ret) (hP : gP g ws H) (hD : va_D A ws) (hS : va_S A H0 H locs) (q0 : Nat) (he : ws[q0]? = some (a, .inl (g.2.2.1, n, .inr (.inl f)))) (hin : inb i n) (ws' : va_W) (hws : ws.set q0 (a, .inl (g.2.2.1, n, .inr (.inl (vp_updL f (ix i) x)))) = ws') (hd : decode cc pc = .ok (.lastore, 1))
    (kk : ∀ (H1 : Heap) (locs1 : List Loc), gP g ws' H1 → va_D A ws' → va_S A H0 H1 locs1 → W p l e R s m args below meth c H1 locs1 cells slots Q (F0 m (pc + 1) ls rest)) : W p l e R s m args below meth c H locs cells slots Q (F0 m pc ls (.long x :: .int i :: .ref a :: rest)) := by
  subst hws
  exact va_last hE.1 hE.2.1 hE.2.2.2.2.2.2.2.1 hP hD hS q0 1 he rfl hin hd kk
theorem g_alen {a : Nat} {cA : ClassId} {x : vp_A} {v : Int32} (hE : GE p c meth s args m g own cc nL ret) (hP : gP g ws H) (q0 t0 : Nat) (he : ws[q0]? = some (a, .inl (cA, x))) {ty : FieldType} (ht : (gT g)[t0]? = some (cA, ty)) (hv : Int32.ofNat x.1 = v) (hd : decode cc pc = .ok (.arraylength, 1))
    (kk : W p l e R s m args below meth c H locs cells slots Q (F0 m (pc + 1) ls (.int v :: rest))) : W p l e R s m args below meth c H locs cells slots Q (F0 m pc ls (.ref a :: rest)) :=
  va_alen hE.1 hE.2.1 hE.2.2.2.2.2.2.2.1 hP q0 t0 he ht hv hd kk
-- calls: what the tables owe
theorem goodTC {y : MethodName} {cc : ByteArray} {nL : Nat} {ret : Option FieldType} (h : Cond.code y cc nL ret ∈ TBL) : GoodIn TBL (Cond.code y cc nL ret :: TBL) := fun w hw => (List.mem_cons.mp hw).elim (fun q => by rw [q]; exact good_tbl _ h) (fun q => good_tbl _ q)
theorem gblindR {g : GK} {av : List Value} {w0 : va_W} : FrameBlind (gPr g av w0) := fun a U _ mk q => ⟨q.1, q.2.1, q.2.2.1.call _ mk a, gZ.moved (u := U) (Vm.Alike.refl U.vm) q.2.2.2⟩
theorem gblindM {g : GK} {av : List Value} {w0 : va_W} {sz : Nat} : FrameBlind (gPm g av w0 sz) := fun a U _ mk q => ⟨q.1, q.2.1, q.2.2.1, q.2.2.2.1.call _ mk a, q.2.2.2.2.1, gZ.moved (u := U) (Vm.Alike.refl U.vm) q.2.2.2.2.2⟩
variable {y : MethodName} {cy : ByteArray} {nLy : Nat} {rety : Option FieldType} {rmy : Room} {n idx : Nat} {As : List Value} {w0 : va_W} {b : Nat}
theorem gr_goes {rv : Option Value} {a : Array Value} {st0 st1 : List Value} (hr : CallRun p l e R s m args below meth c H locs cells slots 0 0 (F0 m pc ls st0) rest (gQr rv a) (fun _ => False)) (h1 : rv.toList ++ rest = st1)
    (kk : W p l e R s m args below meth c H locs cells slots Q (F0 m (pc + 3) ls st1)) : W p l e R s m args below meth c H locs cells slots Q (F0 m pc ls st0) := by
  subst h1
  intro T hT X
  obtain ⟨v, st₀, t, T', L, h0, X', hL, e1, ⟨hv, hh⟩, st⟩ := hr T hT X
  cases hv
  obtain ⟨t2, a1, b1⟩ := kk T' (by rw [e1, hh, h0]) (Stand.forget X' (fun q h => (hL q h).elim))
  exact ⟨t2, st t2 a1, b1⟩
theorem callRun_of {mc ms : Nat} {gf : JFrame} {Qa : State → Outcome → State → Prop} {free : Addr → Prop} (h : va_Run p l e R s m args below meth c H locs cells slots mc ms gf rest Qa free) : CallRun p l e R s m args below meth c H locs cells slots mc ms gf rest Qa free := by
  intro T hT X
  obtain ⟨v, st₀, t, T', L, h0, X', hL, e1, -, hq, st⟩ := h T hT X
  exact ⟨v, st₀, t, T', L, h0, X', hL, e1, hq, st⟩
theorem gr_callV {rv : Option Value} {st0 st1 : List Value} {ci : Nat} {fs : List Value} {T : u_T} {N : Nat} {ty0 : Nat → FieldType} (hE : GE p c meth s args m g own cc nL ret) (hls : ls.size = nL) (hC : GCV own idx y cy nLy rety n) (hM : gR l y cy nLy rety rmy g (.ref b :: As) w0 rv)
    (hZ : gZ g A s s.heap) (hS : va_S A s.heap H locs) (hP : gP g ws H) (sg : List (Nat × Nat)) (hw : sg.flatMap (fun q => (ws.drop q.1).take q.2) = w0) (hc : GCls y.cls T N ci ty0) (he : w0[0]? = some (b, .inr (ci, fs))) (hn : As.length = n) (hst : st0 = As.reverse ++ .ref b :: rest) (h1 : rv.toList ++ rest = st1) (hrm : rmy.cells = 0 ∧ rmy.slots = 0) (hR : rmy.frames + 1 ≤ R.frames ∧ 8 + (nLy + 11) + rmy.locals ≤ R.locals) (hcs : cells ≤ R.cells ∧ slots ≤ R.slots) (hroom : (rest.map fun v => v.category).sum ≤ 8) (hd : decode cc pc = .ok (.invokevirtual idx, 3))
    (kk : W p l e R s m args below meth c H locs cells slots Q (F0 m (pc + 3) ls st1)) : W p l e R s m args below meth c H locs cells slots Q (F0 m pc ls st0) := by
  have hP0 : gP g w0 H := vaP_seg hP sg hw
  have ht := hE.2.2.2.2.2.2.1
  have cw : CallW R s args own y.cls idx y cy nLy rety (Cond.code y cy nLy rety :: TBL) rmy 0 0 n := ⟨callB_of n ht (goodTC hC.2.2.2.2.1) rfl hrm.1 hrm.2 (ht _ hC.2.2.2.1) (ht _ hC.1) hC.2.2.2.2.2 hR, ht _ hC.2.1, ht _ hC.2.2.1⟩
  refine gr_goes (W.runV (Ts := TBL) (own := own) (C := y.cls) ⟨hE.1, hE.2.1, hE.2.2.2.2.1, hE.2.2.2.2.2.1, ht⟩ hM cw ⟨gblindR, va_recv hE.2.2.2.2.2.2.2.1 hP0 hc.1 he, fun U hU hW => ⟨rfl, by rw [hU]; exact hP0, hE.2.2.2.2.2.2.2.warm hW, by rw [hU]; exact ((hZ.kept hS.2.1).narrow (fun _ h => h.elim)).moved hW.alike⟩⟩ rfl hn hls hst (lv_room hroom) hd hcs) h1 kk
theorem gr_callS {rv : Option Value} {st0 st1 : List Value} (hE : GE p c meth s args m g own cc nL ret) (hls : ls.size = nL) (hC : GCS own idx y cy nLy rety n) (hM : gR l y cy nLy rety rmy g As w0 rv)
    (hZ : gZ g A s s.heap) (hS : va_S A s.heap H locs) (hP : gP g ws H) (sg : List (Nat × Nat)) (hw : sg.flatMap (fun q => (ws.drop q.1).take q.2) = w0) (hn : As.length = n) (hst : st0 = As.reverse ++ rest) (h1 : rv.toList ++ rest = st1) (hrm : rmy.cells = 0 ∧ rmy.slots = 0) (hR : rmy.frames + 1 ≤ R.frames ∧ 8 + (nLy + 11) + rmy.locals ≤ R.locals) (hcs : cells ≤ R.cells ∧ slots ≤ R.slots) (hroom : (rest.map fun v => v.category).sum ≤ 8) (hd : decode cc pc = .ok (.invokestatic idx, 3))
    (kk : W p l e R s m args below meth c H locs cells slots Q (F0 m (pc + 3) ls st1)) : W p l e R s m args below meth c H locs cells slots Q (F0 m pc ls st0) := by
  have hP0 : gP g w0 H := vaP_seg hP sg hw
  have ht := hE.2.2.2.2.2.2.1
  have cw : CallB R s args own idx y cy nLy rety (Cond.code y cy nLy rety :: TBL) rmy 0 0 n ∧ (Cond.static y).before args s = true := ⟨callB_of n ht (goodTC hC.2.2.2.1) rfl hrm.1 hrm.2 (ht _ hC.2.2.1) (ht _ hC.1) hC.2.2.2.2 hR, ht _ hC.2.1⟩
  refine gr_goes (W.runS (Ts := TBL) (own := own) ⟨hE.1, hE.2.1, hE.2.2.2.2.1, hE.2.2.2.2.2.1, ht⟩ hM cw ⟨gblindR, fun U hU hW => ⟨rfl, by rw [hU]; exact hP0, hE.2.2.2.2.2.2.2.warm hW, by rw [hU]; exact ((hZ.kept hS.2.1).narrow (fun _ h => h.elim)).moved hW.alike⟩⟩ rfl hn hls hst (lv_room hroom) hd hcs) h1 kk
theorem gcn {host : String} {mc ms : Nat} (ht : ∀ w ∈ TBL, w.before args s = true) (hk : gK g s) (h0 : (own, idx, y, host) ∈ nst) (hi : Cond.initialized y.cls ∈ TBL) (hc : Cond.code y cy nLy rety ∈ TBL) (hd : GDesc y n) (hrm : rmy.cells = mc ∧ rmy.slots = ms) (hR : rmy.frames + 1 ≤ R.frames ∧ 8 + (nLy + 11) + rmy.locals ≤ R.locals) : va_CN R s args own idx y host cy nLy rety (Cond.code y cy nLy rety :: TBL) rmy mc ms n :=
  ⟨⟨hrm.1, hrm.2, hR.1, hR.2, pay_in ht (goodTC hc), List.mem_cons_self⟩, ht _ hc, ht _ hi, ⟨hd.1, hd.2.1⟩, fun sig h => by have h2 := hd.2.2; rw [h] at h2; exact (Option.some.inj h2).symm, va_Nw.use rfl (hk.2.1 _ h0)⟩
theorem gr_callN {rv : Option Value} {st0 st1 : List Value} {host : String} (hE : GE p c meth s args m g own cc nL ret) (hls : ls.size = nL) (hC : GCN own idx y host cy nLy rety n) (hM : gR l y cy nLy rety rmy g As w0 rv)
    (hZ : gZ g A s s.heap) (hS : va_S A s.heap H locs) (hP : gP g ws H) (sg : List (Nat × Nat)) (hw : sg.flatMap (fun q => (ws.drop q.1).take q.2) = w0) (hn : As.length = n) (hst : st0 = As.reverse ++ rest) (h1 : rv.toList ++ rest = st1) (hrm : rmy.cells = 0 ∧ rmy.slots = 0) (hR : rmy.frames + 1 ≤ R.frames ∧ 8 + (nLy + 11) + rmy.locals ≤ R.locals) (hcs : cells ≤ R.cells ∧ slots ≤ R.slots) (hroom : (rest.map fun v => v.category).sum ≤ 8) (hd : decode cc pc = .ok (.invokestatic idx, 3))
    (kk : W p l e R s m args below meth c H locs cells slots Q (F0 m (pc + 3) ls st1)) : W p l e R s m args below meth c H locs cells slots Q (F0 m pc ls st0) := by
  have hP0 : gP g w0 H := vaP_seg hP sg hw
  have ht := hE.2.2.2.2.2.2.1
  refine gr_goes (callRun_of (va_runSN (Ts := TBL) (own := own) (host := host) ⟨hE.1, hE.2.1, hE.2.2.2.2.1, hE.2.2.2.2.2.1, ht⟩ hM ⟨gcn ht hE.2.2.2.2.2.2.2 hC.1 hC.2.2.1 hC.2.2.2.1 hC.2.2.2.2 hrm hR, ht _ hC.2.1, trivial⟩ ⟨gblindR, fun U hU hW => ⟨rfl, by rw [hU]; exact hP0, hE.2.2.2.2.2.2.2.warm hW, by rw [hU]; exact ((hZ.kept hS.2.1).narrow (fun _ h => h.elim)).moved hW.alike⟩⟩ rfl hn hls hst (lv_room hroom) hd hcs)) h1 kk
/-- behind a call that writes: the callee's world in its place -/
theorem gm_goes {X : Type} {rv : X → Option Value} {w1 ws' : X → va_W} {a : Array Value} {st0 : List Value} {st1 : X → List Value} {mc ms : Nat} (hr : va_Run p l e R s m args below meth c H locs cells slots mc ms (F0 m pc ls st0) rest (gQm g rv w1 (va_A w0 H.size) a) (va_A w0 H.size))
    (hP : gP g ws H) (hD : va_D A ws) (hS : va_S A H0 H locs) (hA : ∀ q : Nat, H0.size ≤ q → A q) (isC isR pm : List Nat) (hC : isC.map (fun i => ws[i]?) = w0.map some) (hRr : isR.map (fun i => ws[i]?) = (isR.filterMap (fun i => ws[i]?)).map some) (hn : va_nd isR = true) (hdis : ∀ i ∈ isR, i ∉ isC)
    (hws : ∀ x, pm.map (fun i => ((isR.filterMap (fun i => ws[i]?)) ++ w1 x)[i]?) = (ws' x).map some) (hnp : va_nd pm = true) (h1 : ∀ x, (rv x).toList ++ rest = st1 x)
    (kk : ∀ (x : X) (H1 : Heap) (locs1 : List Loc), gP g (ws' x) H1 → va_D A (ws' x) → va_S A H0 H1 locs1 → W p l e R s m args below meth c H1 locs1 (cells + mc) (slots + ms) Q (F0 m (pc + 3) ls (st1 x))) : W p l e R s m args below meth c H locs cells slots Q (F0 m pc ls st0) := by
  intro T hT X0
  obtain ⟨v, st₀, t, T', L, h0, X', hL, e1, e2, ⟨⟨x, hv, hP1, hD1⟩, hz, hk⟩, st⟩ := hr T hT X0
  cases hv
  rw [h0] at hz hk
  have hF := va_free hD hS hA isC hC
  obtain ⟨hPj, hDj⟩ := va_join hP hD isC isR hC hRr hn hdis hk hF hP1 hD1
  have hPw : gP g (ws' x) t.heap := by
    refine va_P.sub hPj pm ?_
    have := congrArg (List.filterMap (id : Option (Nat × va_E) → _)) (hws x)
    rw [List.filterMap_map, List.filterMap_map] at this
    simpa [Function.comp_def] using this
  have hDw : va_D A (ws' x) := hDj.sub pm hnp (hws x)
  have hS1 : va_S A H0 T'.heap (locs ++ L) := ⟨Nat.le_trans hS.1 (by rw [e1]; exact hz), fun q h1 h2 => by rw [e1, hk q (Nat.lt_of_lt_of_le h1 hS.1) (fun z => h2 (hF q z))]; exact hS.2.1 q h1 h2, fun q hq => by
      rcases List.mem_append.mp hq with h | h
      · exact hS.2.2 q h
      · exact hF _ (hL q h)⟩
  obtain ⟨t2, a1, b1⟩ := kk x T'.heap (locs ++ L) (by rw [e1]; exact hPw) hDw hS1 T' rfl X'
  rw [← h1 x] at a1
  exact ⟨t2, st t2 a1, b1⟩
theorem gm_callV {X : Type} {rv : X → Option Value} {w1 ws' : X → va_W} {st0 : List Value} {st1 : X → List Value} {mc ms ci : Nat} {fs : List Value} {T : u_T} {N : Nat} {ty0 : Nat → FieldType} (hE : GE p c meth s args m g own cc nL ret) (hls : ls.size = nL) (hC : GCV own idx y cy nLy rety n) (hM : gM l y cy nLy rety rmy g (.ref b :: As) w0 rv w1 mc ms)
    (hZ : gZ g A s s.heap) (hP : gP g ws H) (hD : va_D A ws) (hS : va_S A s.heap H locs) (hA : ∀ q : Nat, s.heap.size ≤ q → A q) (isC isR pm : List Nat) (hCi : isC.map (fun i => ws[i]?) = w0.map some) (hw : isC.filterMap (fun i => ws[i]?) = w0) (hnC : va_nd isC = true) (hRr : isR.map (fun i => ws[i]?) = (isR.filterMap (fun i => ws[i]?)).map some) (hnR : va_nd isR = true) (hdis : ∀ i ∈ isR, i ∉ isC)
    (hws : ∀ x, pm.map (fun i => ((isR.filterMap (fun i => ws[i]?)) ++ w1 x)[i]?) = (ws' x).map some) (hnp : va_nd pm = true) (hc : GCls y.cls T N ci ty0) (he : w0[0]? = some (b, .inr (ci, fs))) (hn : As.length = n) (hst : st0 = As.reverse ++ .ref b :: rest) (h1 : ∀ x, (rv x).toList ++ rest = st1 x) (hrm : rmy.cells = mc ∧ rmy.slots = ms) (hR : rmy.frames + 1 ≤ R.frames ∧ 8 + (nLy + 11) + rmy.locals ≤ R.locals) (hcs : cells + mc ≤ R.cells ∧ slots + ms ≤ R.slots) (hroom : (rest.map fun v => v.category).sum ≤ 8) (hd : decode cc pc = .ok (.invokevirtual idx, 3))
    (kk : ∀ (x : X) (H1 : Heap) (locs1 : List Loc), gP g (ws' x) H1 → va_D A (ws' x) → va_S A s.heap H1 locs1 → W p l e R s m args below meth c H1 locs1 (cells + mc) (slots + ms) Q (F0 m (pc + 3) ls (st1 x))) : W p l e R s m args below meth c H locs cells slots Q (F0 m pc ls st0) := by
  have hP0 : gP g w0 H := va_P.sub hP isC hw
  have hD0 : va_D A w0 := hD.sub isC hnC hCi
  have ht := hE.2.2.2.2.2.2.1
  have cw : CallW R s args own y.cls idx y cy nLy rety (Cond.code y cy nLy rety :: TBL) rmy mc ms n := ⟨callB_of n ht (goodTC hC.2.2.2.2.1) rfl hrm.1 hrm.2 (ht _ hC.2.2.2.1) (ht _ hC.1) hC.2.2.2.2.2 hR, ht _ hC.2.1, ht _ hC.2.2.1⟩
  exact gm_goes (va_runV (Ts := TBL) (own := own) (C := y.cls) ⟨hE.1, hE.2.1, hE.2.2.2.2.1, hE.2.2.2.2.2.1, ht⟩ (hM H.size) cw ⟨gblindM, va_recv hE.2.2.2.2.2.2.2.1 hP0 hc.1 he, fun U hU hW => ⟨rfl, by rw [hU], by rw [hU]; exact hP0, hE.2.2.2.2.2.2.2.warm hW, hD0.weaken (fun _ _ _ _ => trivial), by rw [hU]; exact ((hZ.kept hS.2.1).narrow (va_free hD hS hA isC hCi)).moved hW.alike⟩⟩ rfl hn hls hst (lv_room hroom) hd hcs) hP hD hS hA isC isR pm hCi hRr hnR hdis hws hnp h1 kk
theorem g_ldcw {idx : Nat} {v : Int32} (hE : GE p c meth s args m g own cc nL ret) (hk : Cond.constant own idx v ∈ TBL) (hd : decode cc pc = .ok (.ldc_w idx, 3)) (kk : W p l e R s m args below meth c H locs cells slots Q (F0 m (pc + 3) ls (.int v :: rest))) : W p l e R s m args below meth c H locs cells slots Q (F0 m pc ls rest) :=
  lv_ldcw hE.1 hE.2.1 hE.2.2.2.2.2.1 (hE.2.2.2.2.2.2.1 _ hk) hd kk
theorem g_swIn {x k : Int32} {dflt lo hi off : Int} {offs : Array Int} {len tgt : Nat} (hE : GE p c meth s args m g own cc nL ret) (hxk : x = k) (hd : decode cc pc = .ok (.tableswitch dflt lo hi offs, len)) (kI : Int) (hb : (¬ kI < lo) ∧ ¬ hi < kI) (hk : k.toInt = kI) (ho : offs[(kI - lo).toNat]? = some off) (ht : (pc : Int) + off = (tgt : Int))
    (kk : W p l e R s m args below meth c H locs cells slots Q (F0 m tgt ls rest)) : W p l e R s m args below meth c H locs cells slots Q (F0 m pc ls (.int x :: rest)) := by
  subst hxk; subst hk
  exact lv_tableIn hE.1 hE.2.1 hd hb.1 hb.2 ho ht kk
theorem g_mmax {idx : Nat} {x y : Int32} (hE : GE p c meth s args m g own cc nL ret) (hls : ls.size = nL) (hk : Cond.methodLink own idx Lib.Math.max.name ∈ TBL) (hfr : 1 ≤ R.frames) (hlo : (rest.map fun v => v.category).sum + 13 ≤ R.locals) (hcs : cells ≤ R.cells ∧ slots ≤ R.slots) (hd : decode cc pc = .ok (.invokestatic idx, 3))
    (kk : W p l e R s m args below meth c H locs cells slots Q (F0 m (pc + 3) ls (.int (if x < y then y else x) :: rest))) : W p l e R s m args below meth c H locs cells slots Q (F0 m pc ls (.int y :: .int x :: rest)) :=
  va_mmax hE.1 hE.2.1 (hE.2.2.2.2.1.trans hls.symm) hE.2.2.2.2.2.1 (hE.2.2.2.2.2.2.1 _ hk) (hE.2.2.2.2.2.2.1 _ kmx_s) (hE.2.2.2.2.2.2.1 _ km_i) (hE.2.2.2.2.2.2.1 _ kmx_c) hfr hlo hcs.1 hcs.2 hd kk
theorem g_mmin {idx : Nat} {x y : Int32} (hE : GE p c meth s args m g own cc nL ret) (hls : ls.size = nL) (hk : Cond.methodLink own idx Lib.Math.min.name ∈ TBL) (hfr : 1 ≤ R.frames) (hlo : (rest.map fun v => v.category).sum + 13 ≤ R.locals) (hcs : cells ≤ R.cells ∧ slots ≤ R.slots) (hd : decode cc pc = .ok (.invokestatic idx, 3))
    (kk : W p l e R s m args below meth c H locs cells slots Q (F0 m (pc + 3) ls (.int (if y < x then y else x) :: rest))) : W p l e R s m args below meth c H locs cells slots Q (F0 m pc ls (.int y :: .int x :: rest)) :=
  va_mmin hE.1 hE.2.1 (hE.2.2.2.2.1.trans hls.symm) hE.2.2.2.2.2.1 (hE.2.2.2.2.2.2.1 _ hk) (hE.2.2.2.2.2.2.1 _ kmn_s) (hE.2.2.2.2.2.2.1 _ km_i) (hE.2.2.2.2.2.2.1 _ kmn_c) hfr hlo hcs.1 hcs.2 hd kk
theorem g_copyi {idx a a1 n0 n1 : Nat} {f f2 : Nat → Int32} {sp dp n : Int32} (hE : GE p c meth s args m g own cc nL ret) (hls : ls.size = nL) (hk : Cond.methodLink own idx arraycopyName ∈ TBL) (hP : gP g ws H) (hD : va_D A ws) (hS : va_S A s.heap H locs) (q0 q1 : Nat) (he : ws[q0]? = some (a, .inl (g.2.1, n0, .inl f))) (he1 : ws[q1]? = some (a1, .inl (g.2.1, n1, .inl f2))) (hg : cpok sp dp n n0 n1) (hfr : 1 ≤ R.frames) (hlo : (rest.map fun v => v.category).sum + (nativeFrameWords "java/lang/System" "arraycopy" 5 + 11) ≤ R.locals) (ws' : va_W) (hws : ws.set q1 (a1, .inl (g.2.1, n1, .inl (va_cpy f f2 (ix sp) (ix dp) (ix n)))) = ws') (hd : decode cc pc = .ok (.invokestatic idx, 3))
    (kk : ∀ (H1 : Heap) (locs1 : List Loc), gP g ws' H1 → va_D A ws' → va_S A s.heap H1 locs1 → W p l e R s m args below meth c H1 locs1 cells slots Q (F0 m (pc + 3) ls rest)) : W p l e R s m args below meth c H locs cells slots Q (F0 m pc ls (.int n :: .int dp :: .ref a1 :: .int sp :: .ref a :: rest)) := by
  subst hws
  exact va_copyi hE.1 hE.2.1 (hE.2.2.2.2.1.trans hls.symm) hE.2.2.2.2.2.1 (hE.2.2.2.2.2.2.1 _ hk) (hE.2.2.2.2.2.2.1 _ kcp_n) (hE.2.2.2.2.2.2.1 _ kcp_s) (hE.2.2.2.2.2.2.1 _ kcp_i) hE.2.2.2.2.2.2.2.1 hP hD hS q0 q1 0 0 he he1 rfl rfl rfl hg.1 hg.2.1 hg.2.2.1 hg.2.2.2.1 hg.2.2.2.2 (fun _ _ => rfl) hfr hlo hd kk
theorem g_copyl {idx a a1 n0 n1 : Nat} {f f2 : Nat → Int64} {sp dp n : Int32} (hE : GE p c meth s args m g own cc nL ret) (hls : ls.size = nL) (hk : Cond.methodLink own idx arraycopyName ∈ TBL) (hP : gP g ws H) (hD : va_D A ws) (hS : va_S A s.heap H locs) (q0 q1 : Nat) (he : ws[q0]? = some (a, .inl (g.2.2.1, n0, .inr (.inl f)))) (he1 : ws[q1]? = some (a1, .inl (g.2.2.1, n1, .inr (.inl f2)))) (hg : cpok sp dp n n0 n1) (hfr : 1 ≤ R.frames) (hlo : (rest.map fun v => v.category).sum + (nativeFrameWords "java/lang/System" "arraycopy" 5 + 11) ≤ R.locals) (ws' : va_W) (hws : ws.set q1 (a1, .inl (g.2.2.1, n1, .inr (.inl (va_cpy f f2 (ix sp) (ix dp) (ix n))))) = ws') (hd : decode cc pc = .ok (.invokestatic idx, 3))
    (kk : ∀ (H1 : Heap) (locs1 : List Loc), gP g ws' H1 → va_D A ws' → va_S A s.heap H1 locs1 → W p l e R s m args below meth c H1 locs1 cells slots Q (F0 m (pc + 3) ls rest)) : W p l e R s m args below meth c H locs cells slots Q (F0 m pc ls (.int n :: .int dp :: .ref a1 :: .int sp :: .ref a :: rest)) := by
  subst hws
  exact va_copyl hE.1 hE.2.1 (hE.2.2.2.2.1.trans hls.symm) hE.2.2.2.2.2.1 (hE.2.2.2.2.2.2.1 _ hk) (hE.2.2.2.2.2.2.1 _ kcp_n) (hE.2.2.2.2.2.2.1 _ kcp_s) (hE.2.2.2.2.2.2.1 _ kcp_i) hE.2.2.2.2.2.2.2.1 hP hD hS q0 q1 1 1 he he1 rfl rfl rfl hg.1 hg.2.1 hg.2.2.1 hg.2.2.2.1 hg.2.2.2.2 (fun _ _ => rfl) hfr hlo hd kk
theorem gm_callS {X : Type} {rv : X → Option Value} {w1 ws' : X → va_W} {st0 : List Value} {st1 : X → List Value} {mc ms : Nat} (hE : GE p c meth s args m g own cc nL ret) (hls : ls.size = nL) (hC : GCS own idx y cy nLy rety n) (hM : gM l y cy nLy rety rmy g As w0 rv w1 mc ms)
    (hZ : gZ g A s s.heap) (hP : gP g ws H) (hD : va_D A ws) (hS : va_S A s.heap H locs) (hA : ∀ q : Nat, s.heap.size ≤ q → A q) (isC isR pm : List Nat) (hCi : isC.map (fun i => ws[i]?) = w0.map some) (hw : isC.filterMap (fun i => ws[i]?) = w0) (hnC : va_nd isC = true) (hRr : isR.map (fun i => ws[i]?) = (isR.filterMap (fun i => ws[i]?)).map some) (hnR : va_nd isR = true) (hdis : ∀ i ∈ isR, i ∉ isC)
    (hws : ∀ x, pm.map (fun i => ((isR.filterMap (fun i => ws[i]?)) ++ w1 x)[i]?) = (ws' x).map some) (hnp : va_nd pm = true) (hn : As.length = n) (hst : st0 = As.reverse ++ rest) (h1 : ∀ x, (rv x).toList ++ rest = st1 x) (hrm : rmy.cells = mc ∧ rmy.slots = ms) (hR : rmy.frames + 1 ≤ R.frames ∧ 8 + (nLy + 11) + rmy.locals ≤ R.locals) (hcs : cells + mc ≤ R.cells ∧ slots + ms ≤ R.slots) (hroom : (rest.map fun v => v.category).sum ≤ 8) (hd : decode cc pc = .ok (.invokestatic idx, 3))
    (kk : ∀ (x : X) (H1 : Heap) (locs1 : List Loc), gP g (ws' x) H1 → va_D A (ws' x) → va_S A s.heap H1 locs1 → W p l e R s m args below meth c H1 locs1 (cells + mc) (slots + ms) Q (F0 m (pc + 3) ls (st1 x))) : W p l e R s m args below meth c H locs cells slots Q (F0 m pc ls st0) := by
  have hP0 : gP g w0 H := va_P.sub hP isC hw
  have hD0 : va_D A w0 := hD.sub isC hnC hCi
  have ht := hE.2.2.2.2.2.2.1
  have cw : CallB R s args own idx y cy nLy rety (Cond.code y cy nLy rety :: TBL) rmy mc ms n ∧ (Cond.static y).before args s = true := ⟨callB_of n ht (goodTC hC.2.2.2.1) rfl hrm.1 hrm.2 (ht _ hC.2.2.1) (ht _ hC.1) hC.2.2.2.2 hR, ht _ hC.2.1⟩
  exact gm_goes (va_runS (Ts := TBL) (own := own) ⟨hE.1, hE.2.1, hE.2.2.2.2.1, hE.2.2.2.2.2.1, ht⟩ (hM H.size) cw ⟨gblindM, fun U hU hW => ⟨rfl, by rw [hU], by rw [hU]; exact hP0, hE.2.2.2.2.2.2.2.warm hW, hD0.weaken (fun _ _ _ _ => trivial), by rw [hU]; exact ((hZ.kept hS.2.1).narrow (va_free hD hS hA isC hCi)).moved hW.alike⟩⟩ rfl hn hls hst (lv_room hroom) hd hcs) hP hD hS hA isC isR pm hCi hRr hnR hdis hws hnp h1 kk
/-- behind a call that writes one part of the world, which lies together -/
theorem gm_goes1 {X : Type} {rv : X → Option Value} {w1 ws' : X → va_W} {a : Array Value} {st0 : List Value} {st1 : X → List Value} {mc ms : Nat} (hr : va_Run p l e R s m args below meth c H locs cells slots mc ms (F0 m pc ls st0) rest (gQm g rv w1 (va_A w0 H.size) a) (va_A w0 H.size))
    (hP : gP g ws H) (hD : va_D A ws) (hS : va_S A H0 H locs) (hA : ∀ q : Nat, H0.size ≤ q → A q) (pr po : va_W) (hw : ws = pr ++ (w0 ++ po)) (hws : ∀ x, pr ++ (w1 x ++ po) = ws' x) (h1 : ∀ x, (rv x).toList ++ rest = st1 x)
    (kk : ∀ (x : X) (H1 : Heap) (locs1 : List Loc), gP g (ws' x) H1 → va_D A (ws' x) → va_S A H0 H1 locs1 → W p l e R s m args below meth c H1 locs1 (cells + mc) (slots + ms) Q (F0 m (pc + 3) ls (st1 x))) : W p l e R s m args below meth c H locs cells slots Q (F0 m pc ls st0) := by
  intro T hT X0
  obtain ⟨v, st₀, t, T', L, h0, X', hL, e1, e2, ⟨⟨x, hv, hP1, hD1⟩, hz, hk⟩, st⟩ := hr T hT X0
  cases hv
  rw [h0] at hz hk
  subst hw
  have hPm := vaP_mem.mp hP
  obtain ⟨hDn, hDa⟩ := vaD_mem.mp hD
  obtain ⟨hn1, ha1⟩ := vaD_mem.mp hD1
  have hlt : ∀ q ∈ pr ++ (w0 ++ po), q.1 < H.size := fun q hq => (hPm q hq).lt
  have hF : ∀ q, va_A w0 H.size q → A q := by
    intro q hq
    rcases hq with ⟨k, e0, hk0⟩ | hq
    · exact hDa (q, e0) (List.mem_append_right _ (List.mem_append_left _ (List.mem_of_getElem? hk0)))
    · exact hA q (Nat.le_trans hS.1 hq)
  have hap : ∀ q ∈ pr ++ po, ¬ va_A w0 H.size q.1 := by
    intro q hq hqa
    have hq' : q ∈ pr ++ (w0 ++ po) := (List.mem_append.mp hq).elim (fun h => List.mem_append_left _ h) (fun h => List.mem_append_right _ (List.mem_append_right _ h))
    rcases hqa with ⟨k, e0, hk0⟩ | hge
    · have hm : (q.1, e0) ∈ w0 := List.mem_of_getElem? hk0
      rw [List.map_append, List.map_append] at hDn
      have d1 := List.nodup_append.mp hDn
      have d2 := List.nodup_append.mp d1.2.1
      have hm1 : q.1 ∈ w0.map Prod.fst := List.mem_map.mpr ⟨_, hm, rfl⟩
      rcases List.mem_append.mp hq with h | h
      · exact d1.2.2 q.1 (List.mem_map.mpr ⟨q, h, rfl⟩) q.1 (List.mem_append_left _ hm1) rfl
      · exact d2.2.2 q.1 hm1 q.1 (List.mem_map.mpr ⟨q, h, rfl⟩) rfl
    · have := hlt q hq'
      omega
  have hPw : gP g (ws' x) t.heap := by
    rw [← hws x]
    refine vaP_mem.mpr fun q hq => ?_
    have keep : ∀ q ∈ pr ++ po, va_at g.1 vwCl q t.heap := fun q hq => by
      have hq' : q ∈ pr ++ (w0 ++ po) := (List.mem_append.mp hq).elim (fun h => List.mem_append_left _ h) (fun h => List.mem_append_right _ (List.mem_append_right _ h))
      exact (hPm q hq').kept (hk q.1 (hlt q hq') (hap q hq))
    rcases List.mem_append.mp hq with h | h
    · exact keep q (List.mem_append_left _ h)
    · rcases List.mem_append.mp h with h | h
      · exact vaP_mem.mp hP1 q h
      · exact keep q (List.mem_append_right _ h)
  have hDw : va_D A (ws' x) := by
    rw [← hws x]
    refine vaD_mem.mpr ⟨?_, fun q hq => ?_⟩
    · rw [List.map_append, List.map_append] at hDn ⊢
      have d1 := List.nodup_append.mp hDn
      have d2 := List.nodup_append.mp d1.2.1
      have hx : ∀ z ∈ w1 x, va_A w0 H.size z.1 := ha1
      refine List.nodup_append.mpr ⟨d1.1, List.nodup_append.mpr ⟨hn1, d2.2.1, ?_⟩, ?_⟩
      · intro u hu v hv huv
        obtain ⟨z, hz1, rfl⟩ := List.mem_map.mp hu
        obtain ⟨y, hy1, rfl⟩ := List.mem_map.mp hv
        exact hap y (List.mem_append_right _ hy1) (huv ▸ hx z hz1)
      · intro u hu v hv huv
        obtain ⟨y, hy1, rfl⟩ := List.mem_map.mp hu
        rcases List.mem_append.mp hv with h | h
        · obtain ⟨z, hz1, rfl⟩ := List.mem_map.mp h
          exact hap y (List.mem_append_left _ hy1) (huv ▸ hx z hz1)
        · exact d1.2.2 _ (List.mem_map.mpr ⟨y, hy1, rfl⟩) v (List.mem_append_right _ h) huv
    · rcases List.mem_append.mp hq with h | h
      · exact hDa q (List.mem_append_left _ h)
      · rcases List.mem_append.mp h with h | h
        · exact hF _ (ha1 q h)
        · exact hDa q (List.mem_append_right _ (List.mem_append_right _ h))
  have hS1 : va_S A H0 T'.heap (locs ++ L) := ⟨Nat.le_trans hS.1 (by rw [e1]; exact hz), fun q h1 h2 => by rw [e1, hk q (Nat.lt_of_lt_of_le h1 hS.1) (fun z => h2 (hF q z))]; exact hS.2.1 q h1 h2, fun q hq => by
      rcases List.mem_append.mp hq with h | h
      · exact hS.2.2 q h
      · exact hF _ (hL q h)⟩
  obtain ⟨t2, a1, b1⟩ := kk x T'.heap (locs ++ L) (by rw [e1]; exact hPw) hDw hS1 T' rfl X'
  rw [← h1 x] at a1
  exact ⟨t2, st t2 a1, b1⟩
theorem vaP_mid {D : va_G} {cl : List vw_C} {pr w po : va_W} {H : Heap} (h : va_P D cl (pr ++ (w ++ po)) H) : va_P D cl w H := vaP_mem.mpr fun q hq => vaP_mem.mp h q (List.mem_append_right _ (List.mem_append_left _ hq))
theorem vaD_mid {A : Nat → Prop} {pr w po : va_W} (h : va_D A (pr ++ (w ++ po))) : va_D A w := by
  obtain ⟨h1, h2⟩ := vaD_mem.mp h
  rw [List.map_append, List.map_append] at h1
  exact vaD_mem.mpr ⟨(List.nodup_append.mp (List.nodup_append.mp h1).2.1).1, fun q hq => h2 q (List.mem_append_right _ (List.mem_append_left _ hq))⟩
theorem gA_mid {pr po : va_W} (hD : va_D A (pr ++ (w0 ++ po))) (hS : va_S A H0 H locs) (hA : ∀ q : Nat, H0.size ≤ q → A q) : ∀ q, va_A w0 H.size q → A q := fun q hq => by
  rcases hq with ⟨k, e0, hk0⟩ | hq
  · exact (vaD_mem.mp hD).2 (q, e0) (List.mem_append_right _ (List.mem_append_left _ (List.mem_of_getElem? hk0)))
  · exact hA q (Nat.le_trans hS.1 hq)
theorem gm_callV1 {X : Type} {rv : X → Option Value} {w1 ws' : X → va_W} {st0 : List Value} {st1 : X → List Value} {mc ms ci : Nat} {fs : List Value} {T : u_T} {N : Nat} {ty0 : Nat → FieldType} (hE : GE p c meth s args m g own cc nL ret) (hls : ls.size = nL) (hC : GCV own idx y cy nLy rety n) (hM : gM l y cy nLy rety rmy g (.ref b :: As) w0 rv w1 mc ms)
    (hZ : gZ g A s s.heap) (hP : gP g ws H) (hD : va_D A ws) (hS : va_S A s.heap H locs) (hA : ∀ q : Nat, s.heap.size ≤ q → A q) (k0 k1 : Nat) (hw : ws = ws.take k0 ++ (w0 ++ ws.drop k1)) (hws : ∀ x, ws.take k0 ++ (w1 x ++ ws.drop k1) = ws' x)
    (hc : GCls y.cls T N ci ty0) (he : w0[0]? = some (b, .inr (ci, fs))) (hn : As.length = n) (hst : st0 = As.reverse ++ .ref b :: rest) (h1 : ∀ x, (rv x).toList ++ rest = st1 x) (hrm : rmy.cells = mc ∧ rmy.slots = ms) (hR : rmy.frames + 1 ≤ R.frames ∧ 8 + (nLy + 11) + rmy.locals ≤ R.locals) (hcs : cells + mc ≤ R.cells ∧ slots + ms ≤ R.slots) (hroom : (rest.map fun v => v.category).sum ≤ 8) (hd : decode cc pc = .ok (.invokevirtual idx, 3))
    (kk : ∀ (x : X) (H1 : Heap) (locs1 : List Loc), gP g (ws' x) H1 → va_D A (ws' x) → va_S A s.heap H1 locs1 → W p l e R s m args below meth c H1 locs1 (cells + mc) (slots + ms) Q (F0 m (pc + 3) ls (st1 x))) : W p l e R s m args below meth c H locs cells slots Q (F0 m pc ls st0) := by
  generalize hpr : ws.take k0 = pr at hw hws
  generalize hpo : ws.drop k1 = po at hw hws
  subst hw
  have hP0 : gP g w0 H := vaP_mid hP
  have hD0 : va_D A w0 := vaD_mid hD
  have ht := hE.2.2.2.2.2.2.1
  have cw : CallW R s args own y.cls idx y cy nLy rety (Cond.code y cy nLy rety :: TBL) rmy mc ms n := ⟨callB_of n ht (goodTC hC.2.2.2.2.1) rfl hrm.1 hrm.2 (ht _ hC.2.2.2.1) (ht _ hC.1) hC.2.2.2.2.2 hR, ht _ hC.2.1, ht _ hC.2.2.1⟩
  exact gm_goes1 (va_runV (Ts := TBL) (own := own) (C := y.cls) ⟨hE.1, hE.2.1, hE.2.2.2.2.1, hE.2.2.2.2.2.1, ht⟩ (hM H.size) cw ⟨gblindM, va_recv hE.2.2.2.2.2.2.2.1 hP0 hc.1 he, fun U hU hW => ⟨rfl, by rw [hU], by rw [hU]; exact hP0, hE.2.2.2.2.2.2.2.warm hW, hD0.weaken (fun _ _ _ _ => trivial), by rw [hU]; exact ((hZ.kept hS.2.1).narrow (gA_mid hD hS hA)).moved hW.alike⟩⟩ rfl hn hls hst (lv_room hroom) hd hcs) hP hD hS hA pr po rfl hws h1 kk
theorem gm_callS1 {X : Type} {rv : X → Option Value} {w1 ws' : X → va_W} {st0 : List Value} {st1 : X → List Value} {mc ms : Nat} (hE : GE p c meth s args m g own cc nL ret) (hls : ls.size = nL) (hC : GCS own idx y cy nLy rety n) (hM : gM l y cy nLy rety rmy g As w0 rv w1 mc ms)
    (hZ : gZ g A s s.heap) (hP : gP g ws H) (hD : va_D A ws) (hS : va_S A s.heap H locs) (hA : ∀ q : Nat, s.heap.size ≤ q → A q) (k0 k1 : Nat) (hw : ws = ws.take k0 ++ (w0 ++ ws.drop k1)) (hws : ∀ x, ws.take k0 ++ (w1 x ++ ws.drop k1) = ws' x)
    (hn : As.length = n) (hst : st0 = As.reverse ++ rest) (h1 : ∀ x, (rv x).toList ++ rest = st1 x) (hrm : rmy.cells = mc ∧ rmy.slots = ms) (hR : rmy.frames + 1 ≤ R.frames ∧ 8 + (nLy + 11) + rmy.locals ≤ R.locals) (hcs : cells + mc ≤ R.cells ∧ slots + ms ≤ R.slots) (hroom : (rest.map fun v => v.category).sum ≤ 8) (hd : decode cc pc = .ok (.invokestatic idx, 3))
    (kk : ∀ (x : X) (H1 : Heap) (locs1 : List Loc), gP g (ws' x) H1 → va_D A (ws' x) → va_S A s.heap H1 locs1 → W p l e R s m args below meth c H1 locs1 (cells + mc) (slots + ms) Q (F0 m (pc + 3) ls (st1 x))) : W p l e R s m args below meth c H locs cells slots Q (F0 m pc ls st0) := by
  generalize hpr : ws.take k0 = pr at hw hws
  generalize hpo : ws.drop k1 = po at hw hws
  subst hw
  have hP0 : gP g w0 H := vaP_mid hP
  have hD0 : va_D A w0 := vaD_mid hD
  have ht := hE.2.2.2.2.2.2.1
  have cw : CallB R s args own idx y cy nLy rety (Cond.code y cy nLy rety :: TBL) rmy mc ms n ∧ (Cond.static y).before args s = true := ⟨callB_of n ht (goodTC hC.2.2.2.1) rfl hrm.1 hrm.2 (ht _ hC.2.2.1) (ht _ hC.1) hC.2.2.2.2 hR, ht _ hC.2.1⟩
  exact gm_goes1 (va_runS (Ts := TBL) (own := own) ⟨hE.1, hE.2.1, hE.2.2.2.2.1, hE.2.2.2.2.2.1, ht⟩ (hM H.size) cw ⟨gblindM, fun U hU hW => ⟨rfl, by rw [hU], by rw [hU]; exact hP0, hE.2.2.2.2.2.2.2.warm hW, hD0.weaken (fun _ _ _ _ => trivial), by rw [hU]; exact ((hZ.kept hS.2.1).narrow (gA_mid hD hS hA)).moved hW.alike⟩⟩ rfl hn hls hst (lv_room hroom) hd hcs) hP hD hS hA pr po rfl hws h1 kk
end GW
