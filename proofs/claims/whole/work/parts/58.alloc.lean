/-! what is made: objects, rows, and the calls of constructors -/
theorem kac_i : Cond.arrayClass .int ∈ TBL := tb (in1 (List.mem_of_getElem? (i := 140) (by decide +kernel))) (by decide +kernel)
theorem kac_l : Cond.arrayClass .long ∈ TBL := tb (in1 (List.mem_of_getElem? (i := 92) (by decide +kernel))) (by decide +kernel)
theorem kac_b : Cond.arrayClass .byte ∈ TBL := tb (in1 (List.mem_of_getElem? (i := 77) (by decide +kernel))) (by decide +kernel)
theorem kob_i : Cond.instanceMethod Lib.objectInit ∈ TBL := tb (in1 (List.mem_of_getElem? (i := 33) (by decide +kernel))) (by decide +kernel)
theorem kob_c : Cond.code Lib.objectInit ⟨#[0xb1]⟩ 1 none ∈ TBL := tb (in1 (List.mem_of_getElem? (i := 34) (by decide +kernel))) (by decide +kernel)
section GW
variable {p : Program} {l : Launch} {e : Env} {R : Room} {s : State} {m : MethodId} {args : Array Value} {below : List Frame} {meth : Method} {c : Code} {H : Heap} {locs : List Loc} {cells slots : Nat} {Q : State → Prop}
variable {pc : Nat} {ls : Array Slot} {rest : List Value} {g : GK} {own : String} {cc : ByteArray} {nL : Nat} {ret : Option FieldType} {A : Nat → Prop} {ws : va_W}
variable {y : MethodName} {cy : ByteArray} {nLy : Nat} {rety : Option FieldType} {rmy : Room} {n idx : Nat} {As : List Value} {w0 : va_W} {b : Nat}
theorem gK_same {t0 : Nat} {ty : FieldType} {cA cB : ClassId} (hE : gK g s) (ht : (gT g)[t0]? = some (cB, ty)) (hK : va_K g.1 vwCl (gT g ++ [(cA, ty)]) s) (hty : ty = .int ∨ ty = .long ∨ ty = .byte) : cA = cB := by
  have h1 := (hK.2 3 (cA, ty) (by simp [gT])).2
  have h2 := (hE.1.2 t0 (cB, ty) ht).2
  rcases hty with rfl | rfl | rfl <;> exact Option.some.inj (h1.symm.trans h2)
theorem g_newi {n : Int32} {N : Nat} (hE : GE p c meth s args m g own cc nL ret) (hP : gP g ws H) (hD : va_D A ws) (hS : va_S A s.heap H locs) (hA : ∀ q : Nat, s.heap.size ≤ q → A q) (hn : ¬ n < 0) (hN : n.toNatClampNeg = N) (hby : N * componentBytes .int ≤ 536870912) (hc : cells + 1 ≤ R.cells) (hs : slots + N ≤ R.slots) (hd : decode cc pc = .ok (.newarray .int, 2))
    (kk : ∀ (q : Nat) (H1 : Heap), gP g (ws ++ [(q, .inl (g.2.1, N, .inl (fun _ => 0)))]) H1 → va_D A (ws ++ [(q, .inl (g.2.1, N, .inl (fun _ => 0)))]) → va_S A s.heap H1 locs → W p l e R s m args below meth c H1 locs (cells + 1) (slots + N) Q (F0 m (pc + 2) ls (.ref q :: rest))) : W p l e R s m args below meth c H locs cells slots Q (F0 m pc ls (.int n :: rest)) := by
  refine va_newa (atype := .int) (a0 := (N, .inl (fun _ => 0))) hE.1 hE.2.1 (hE.2.2.2.2.2.2.1 _ kac_i) rfl hE.2.2.2.2.2.2.2.1 hP hD hS hA (fun _ => rfl) hn hN hby hc hs hd (fun q cA H1 hK hP hD hS => ?_)
  have e1 : cA = g.2.1 := gK_same hE.2.2.2.2.2.2.2 (t0 := 0) rfl hK (by simp)
  subst e1
  exact kk q H1 hP hD hS
theorem g_newl {n : Int32} {N : Nat} (hE : GE p c meth s args m g own cc nL ret) (hP : gP g ws H) (hD : va_D A ws) (hS : va_S A s.heap H locs) (hA : ∀ q : Nat, s.heap.size ≤ q → A q) (hn : ¬ n < 0) (hN : n.toNatClampNeg = N) (hby : N * componentBytes .long ≤ 536870912) (hc : cells + 1 ≤ R.cells) (hs : slots + N ≤ R.slots) (hd : decode cc pc = .ok (.newarray .long, 2))
    (kk : ∀ (q : Nat) (H1 : Heap), gP g (ws ++ [(q, .inl (g.2.2.1, N, .inr (.inl (fun _ => 0))))]) H1 → va_D A (ws ++ [(q, .inl (g.2.2.1, N, .inr (.inl (fun _ => 0))))]) → va_S A s.heap H1 locs → W p l e R s m args below meth c H1 locs (cells + 1) (slots + N) Q (F0 m (pc + 2) ls (.ref q :: rest))) : W p l e R s m args below meth c H locs cells slots Q (F0 m pc ls (.int n :: rest)) := by
  refine va_newa (atype := .long) (a0 := (N, .inr (.inl (fun _ => 0)))) hE.1 hE.2.1 (hE.2.2.2.2.2.2.1 _ kac_l) rfl hE.2.2.2.2.2.2.2.1 hP hD hS hA (fun _ => rfl) hn hN hby hc hs hd (fun q cA H1 hK hP hD hS => ?_)
  have e1 : cA = g.2.2.1 := gK_same hE.2.2.2.2.2.2.2 (t0 := 1) rfl hK (by simp)
  subst e1
  exact kk q H1 hP hD hS
theorem g_newb {n : Int32} {N : Nat} (hE : GE p c meth s args m g own cc nL ret) (hP : gP g ws H) (hD : va_D A ws) (hS : va_S A s.heap H locs) (hA : ∀ q : Nat, s.heap.size ≤ q → A q) (hn : ¬ n < 0) (hN : n.toNatClampNeg = N) (hby : N * componentBytes .byte ≤ 536870912) (hc : cells + 1 ≤ R.cells) (hs : slots + N ≤ R.slots) (hd : decode cc pc = .ok (.newarray .byte, 2))
    (kk : ∀ (q : Nat) (H1 : Heap), gP g (ws ++ [(q, .inl (g.2.2.2.1, N, .inl (fun _ => 0)))]) H1 → va_D A (ws ++ [(q, .inl (g.2.2.2.1, N, .inl (fun _ => 0)))]) → va_S A s.heap H1 locs → W p l e R s m args below meth c H1 locs (cells + 1) (slots + N) Q (F0 m (pc + 2) ls (.ref q :: rest))) : W p l e R s m args below meth c H locs cells slots Q (F0 m pc ls (.int n :: rest)) := by
  refine va_newa (atype := .byte) (a0 := (N, .inl (fun _ => 0))) hE.1 hE.2.1 (hE.2.2.2.2.2.2.1 _ kac_b) rfl hE.2.2.2.2.2.2.2.1 hP hD hS hA (fun _ => rfl) hn hN hby hc hs hd (fun q cA H1 hK hP hD hS => ?_)
  have e1 : cA = g.2.2.2.1 := gK_same hE.2.2.2.2.2.2.2 (t0 := 2) rfl hK (by simp)
  subst e1
  exact kk q H1 hP hD hS
theorem g_new {C : String} {T : u_T} {N ci : Nat} {ty0 : Nat → FieldType} {fs : List Value} (hE : GE p c meth s args m g own cc nL ret) (hc : GCls C T N ci ty0) (hk : Cond.classLink own idx C ∈ TBL) (hi : Cond.instantiable C N ∈ TBL) (hn : Cond.initialized C ∈ TBL) (hP : gP g ws H) (hD : va_D A ws) (hS : va_S A s.heap H locs) (hA : ∀ q : Nat, s.heap.size ≤ q → A q) (hfs : ∀ j, j < N → defaultValue (ty0 j) = vp_V fs j) (hcl : cells + 1 ≤ R.cells) (hs : slots + N ≤ R.slots) (hd : decode cc pc = .ok (.new idx, 3))
    (kk : ∀ (q : Nat) (H1 : Heap), gP g (ws ++ [(q, .inr (ci, fs))]) H1 → va_D A (ws ++ [(q, .inr (ci, fs))]) → va_S A s.heap H1 locs → W p l e R s m args below meth c H1 locs (cells + 1) (slots + N) Q (F0 m (pc + 3) ls (.ref q :: rest))) : W p l e R s m args below meth c H locs cells slots Q (F0 m pc ls rest) :=
  va_new hE.1 hE.2.1 hE.2.2.2.2.2.2.1 hc.2.1 ty0 hc.2.2.1 hE.2.2.2.2.2.1 (hE.2.2.2.2.2.2.1 _ hk) (hE.2.2.2.2.2.2.1 _ hi) (hE.2.2.2.2.2.2.1 _ hn) hE.2.2.2.2.2.2.2.1 hP hD hS hA hc.1 hfs hcl hs hd kk
theorem g_putF {C : String} {T : u_T} {N ci k : Nat} {ty0 : Nat → FieldType} {a : Nat} {fs : List Value} {v : Value} (hE : GE p c meth s args m g own cc nL ret) (hin : meth.name = "<init>") (hc : GCls C T N ci ty0) (hf : GFld own idx T k N) (hP : gP g ws H) (hD : va_D A ws) (hS : va_S A s.heap H locs) (q0 : Nat) (he : ws[q0]? = some (a, .inr (ci, fs))) (hfin : (T k).2.2.2 = true) (hdecl : (T k).1 = own) (hn : narrow (ty0 k) v = v) (hfit : fits (ty0 k) v = true) (hl : k < fs.length) (ws' : va_W) (hws : ws.set q0 (a, .inr (ci, fs.set k v)) = ws') (hd : decode cc pc = .ok (.putfield idx, 3))
    (kk : ∀ (H1 : Heap) (locs1 : List Loc), gP g ws' H1 → va_D A ws' → va_S A s.heap H1 locs1 → W p l e R s m args below meth c H1 locs1 cells slots Q (F0 m (pc + 3) ls rest)) : W p l e R s m args below meth c H locs cells slots Q (F0 m pc ls (v :: .ref a :: rest)) := by
  subst hws
  exact va_putF hE.1 hE.2.1 hE.2.2.2.2.2.2.1 hc.2.1 ty0 hc.2.2.1 hc.2.2.2 hE.2.2.2.2.2.1 hE.2.2.2.2.2.2.2.1 hP hD hS q0 he hc.1 k hf.1 (hE.2.2.2.2.2.2.1 _ hf.2) (fun _ h => h) hfin hin hdecl (hc.2.2.1 k hf.1) hn hfit hl hd kk
theorem g_obj {a : Nat} (hE : GE p c meth s args m g own cc nL ret) (hls : ls.size = nL) (hk : Cond.methodLink own idx Lib.objectInit ∈ TBL) (hfr : 1 ≤ R.frames) (hlo : 2 * (F0 m pc ls (.ref a :: rest)).monitorRoom + (rest.map fun v => v.category).sum + 12 ≤ R.locals) (hd : decode cc pc = .ok (.invokespecial idx, 3))
    (kk : W p l e R s m args below meth c H locs cells slots Q (F0 m (pc + 3) ls rest)) : W p l e R s m args below meth c H locs cells slots Q (F0 m pc ls (.ref a :: rest)) :=
  W.objInit hE.1 hE.2.1 hE.2.2.2.2.2.1 (hE.2.2.2.2.2.2.1 _ hk) (hE.2.2.2.2.2.2.1 _ kob_i) (hE.2.2.2.2.2.2.1 _ kob_c) rfl (hls.trans hE.2.2.2.2.1.symm) rfl hd hfr hlo kk
theorem gm_callI1 {X : Type} {rv : X → Option Value} {w1 ws' : X → va_W} {st0 : List Value} {st1 : X → List Value} {mc ms : Nat} (hE : GE p c meth s args m g own cc nL ret) (hls : ls.size = nL) (hC : GCI own idx y cy nLy n) (hM : gM l y cy nLy none rmy g (.ref b :: As) w0 rv w1 mc ms)
    (hZ : gZ g A s s.heap) (hP : gP g ws H) (hD : va_D A ws) (hS : va_S A s.heap H locs) (hA : ∀ q : Nat, s.heap.size ≤ q → A q) (k0 k1 : Nat) (hw : ws = ws.take k0 ++ (w0 ++ ws.drop k1)) (hws : ∀ x, ws.take k0 ++ (w1 x ++ ws.drop k1) = ws' x)
    (hn : As.length = n) (hst : st0 = As.reverse ++ .ref b :: rest) (h1 : ∀ x, (rv x).toList ++ rest = st1 x) (hrm : rmy.cells = mc ∧ rmy.slots = ms) (hR : rmy.frames + 1 ≤ R.frames ∧ 8 + (nLy + 11) + rmy.locals ≤ R.locals) (hcs : cells + mc ≤ R.cells ∧ slots + ms ≤ R.slots) (hroom : (rest.map fun v => v.category).sum ≤ 8) (hd : decode cc pc = .ok (.invokespecial idx, 3))
    (kk : ∀ (x : X) (H1 : Heap) (locs1 : List Loc), gP g (ws' x) H1 → va_D A (ws' x) → va_S A s.heap H1 locs1 → W p l e R s m args below meth c H1 locs1 (cells + mc) (slots + ms) Q (F0 m (pc + 3) ls (st1 x))) : W p l e R s m args below meth c H locs cells slots Q (F0 m pc ls st0) := by
  generalize hpr : ws.take k0 = pr at hw hws
  generalize hpo : ws.drop k1 = po at hw hws
  subst hw
  have hP0 : gP g w0 H := vaP_mid hP
  have hD0 : va_D A w0 := vaD_mid hD
  have ht := hE.2.2.2.2.2.2.1
  have cw : CallB R s args own idx y cy nLy none (Cond.code y cy nLy none :: TBL) rmy mc ms n ∧ y.name = "<init>" ∧ (Cond.instanceMethod y).before args s = true := ⟨callB_of n ht (goodTC hC.2.2.2.2.1) rfl hrm.1 hrm.2 (ht _ hC.2.2.2.1) (ht _ hC.1) hC.2.2.2.2.2 hR, hC.2.2.1, ht _ hC.2.1⟩
  exact gm_goes1 (va_runI (Ts := TBL) (own := own) ⟨hE.1, hE.2.1, hE.2.2.2.2.1, hE.2.2.2.2.2.1, ht⟩ (hM H.size) cw ⟨gblindM, fun U hU hW => ⟨rfl, by rw [hU], by rw [hU]; exact hP0, hE.2.2.2.2.2.2.2.warm hW, hD0.weaken (fun _ _ _ _ => trivial), by rw [hU]; exact ((hZ.kept hS.2.1).narrow (gA_mid hD hS hA)).moved hW.alike⟩⟩ rfl hn hls hst (lv_room hroom) hd hcs) hP hD hS hA pr po rfl hws h1 kk
theorem gm_callIN1 {X : Type} {rv : X → Option Value} {w1 ws' : X → va_W} {st0 : List Value} {st1 : X → List Value} {mc ms : Nat} {host : String} (hE : GE p c meth s args m g own cc nL ret) (hls : ls.size = nL) (hC : GCIN own idx y host cy nLy n) (hM : gM l y cy nLy none rmy g (.ref b :: As) w0 rv w1 mc ms)
    (hZ : gZ g A s s.heap) (hP : gP g ws H) (hD : va_D A ws) (hS : va_S A s.heap H locs) (hA : ∀ q : Nat, s.heap.size ≤ q → A q) (k0 k1 : Nat) (hw : ws = ws.take k0 ++ (w0 ++ ws.drop k1)) (hws : ∀ x, ws.take k0 ++ (w1 x ++ ws.drop k1) = ws' x)
    (hn : As.length = n) (hst : st0 = As.reverse ++ .ref b :: rest) (h1 : ∀ x, (rv x).toList ++ rest = st1 x) (hrm : rmy.cells = mc ∧ rmy.slots = ms) (hR : rmy.frames + 1 ≤ R.frames ∧ 8 + (nLy + 11) + rmy.locals ≤ R.locals) (hcs : cells + mc ≤ R.cells ∧ slots + ms ≤ R.slots) (hroom : (rest.map fun v => v.category).sum ≤ 8) (hd : decode cc pc = .ok (.invokespecial idx, 3))
    (kk : ∀ (x : X) (H1 : Heap) (locs1 : List Loc), gP g (ws' x) H1 → va_D A (ws' x) → va_S A s.heap H1 locs1 → W p l e R s m args below meth c H1 locs1 (cells + mc) (slots + ms) Q (F0 m (pc + 3) ls (st1 x))) : W p l e R s m args below meth c H locs cells slots Q (F0 m pc ls st0) := by
  generalize hpr : ws.take k0 = pr at hw hws
  generalize hpo : ws.drop k1 = po at hw hws
  subst hw
  have hP0 : gP g w0 H := vaP_mid hP
  have hD0 : va_D A w0 := vaD_mid hD
  have ht := hE.2.2.2.2.2.2.1
  exact gm_goes1 (va_runIN (Ts := TBL) (own := own) (host := host) ⟨hE.1, hE.2.1, hE.2.2.2.2.1, hE.2.2.2.2.2.1, ht⟩ (hM H.size) ⟨gcn ht hE.2.2.2.2.2.2.2 hC.1 hC.2.2.2.1 hC.2.2.2.2.1 hC.2.2.2.2.2 hrm hR, hC.2.2.1, ht _ hC.2.1⟩ ⟨gblindM, fun U hU hW => ⟨rfl, by rw [hU], by rw [hU]; exact hP0, hE.2.2.2.2.2.2.2.warm hW, hD0.weaken (fun _ _ _ _ => trivial), by rw [hU]; exact ((hZ.kept hS.2.1).narrow (gA_mid hD hS hA)).moved hW.alike⟩⟩ rfl hn hls hst (lv_room hroom) hd hcs) hP hD hS hA pr po rfl hws h1 kk
end GW
