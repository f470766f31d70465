/-! rows of the law's own walk -/
theorem gR_gM {l : Launch} {y : MethodName} {cc : ByteArray} {nL : Nat} {ret : Option FieldType} {rm : Room} {g : GK} {av : List Value} {w0 : va_W} {rv : Option Value} (h : gR l y cc nL ret rm g av w0 rv) : gM (X := Unit) l y cc nL ret rm g av w0 (fun _ => rv) (fun _ => w0) 0 0 := by
  intro sz
  refine Free.MetFree.mono (P := gPr g av w0) (K := fun _ _ _ _ _ => True) (Q := fun a st o t => gQr rv a st o t ∧ ∃ L, FrameEnd st o t L 0 0 ∧ ∀ q ∈ L, False) h (P' := gPm g av w0 sz) ?_ (fun _ _ _ _ _ h => h) ?_
  · intro a s hp
    exact ⟨hp.1, hp.2.2.1, hp.2.2.2.1, hp.2.2.2.2.2.narrow (fun _ h => h.elim)⟩
  · intro a s o t hp hq
    obtain ⟨⟨ho, hh⟩, Lx, hf, hl⟩ := hq
    refine ⟨⟨⟨(), ho, by rw [hh]; exact hp.2.2.1, hp.2.2.2.2.1.self⟩, by rw [hh]; exact Nat.le_refl _, fun q _ _ => by rw [hh]⟩, Lx, hf, fun q hq => (hl q hq).elim⟩
section LAWR
variable {p : Program} {l : Launch} {e : Env} {R : Room} {s : State} {m : MethodId} {args : Array Value} {below : List Frame} {meth : Method} {c : Code} {H : Heap} {locs : List Loc} {cells slots : Nat} {Q : State → Prop} {g : GK} {own : String} {cc : ByteArray} {nL : Nat} {ret : Option FieldType} {ls : Array Slot} {pc : Nat} {A : Nat → Prop}
variable {idx nLy n b : Nat} {y : MethodName} {cy : ByteArray} {rety : Option FieldType} {rmy : Room} {As rest : List Value} {w0 ws : va_W}
theorem gm_callVp {X : Type} {rv : X → Option Value} {w1 ws' : X → va_W} {st0 : List Value} {st1 : X → List Value} {mc ms ci : Nat} {fs : List Value} {T : u_T} {N : Nat} {ty0 : Nat → FieldType} (hE : GE p c meth s args m g own cc nL ret) (hls : ls.size = nL) (hC : GCV own idx y cy nLy rety n) (hM : gM l y cy nLy rety rmy g (.ref b :: As) w0 rv w1 mc ms)
    (hZ : gZ g A s s.heap) (hP : gP g ws H) (hD : va_D A ws) (hS : va_S A s.heap H locs) (hA : ∀ q : Nat, s.heap.size ≤ q → A q) (pr po : va_W) (hw : ws = pr ++ (w0 ++ po)) (hws : ∀ x, pr ++ (w1 x ++ po) = ws' x)
    (hc : GCls y.cls T N ci ty0) (he : w0[0]? = some (b, .inr (ci, fs))) (hn : As.length = n) (hst : st0 = As.reverse ++ .ref b :: rest) (h1 : ∀ x, (rv x).toList ++ rest = st1 x) (hrm : rmy.cells = mc ∧ rmy.slots = ms) (hR : rmy.frames + 1 ≤ R.frames ∧ 8 + (nLy + 11) + rmy.locals ≤ R.locals) (hcs : cells + mc ≤ R.cells ∧ slots + ms ≤ R.slots) (hroom : (rest.map fun v => v.category).sum ≤ 8) (hd : decode cc pc = .ok (.invokevirtual idx, 3))
    (kk : ∀ (x : X) (H1 : Heap) (locs1 : List Loc), gP g (ws' x) H1 → va_D A (ws' x) → va_S A s.heap H1 locs1 → W p l e R s m args below meth c H1 locs1 (cells + mc) (slots + ms) Q (F0 m (pc + 3) ls (st1 x))) : W p l e R s m args below meth c H locs cells slots Q (F0 m pc ls st0) := by
  subst hw
  have hP0 : gP g w0 H := vaP_mid hP
  have hD0 : va_D A w0 := vaD_mid hD
  have ht := hE.2.2.2.2.2.2.1
  have cw : CallW R s args own y.cls idx y cy nLy rety (Cond.code y cy nLy rety :: TBL) rmy mc ms n := ⟨callB_of n ht (goodTC hC.2.2.2.2.1) rfl hrm.1 hrm.2 (ht _ hC.2.2.2.1) (ht _ hC.1) hC.2.2.2.2.2 hR, ht _ hC.2.1, ht _ hC.2.2.1⟩
  exact gm_goes1 (va_runV (Ts := TBL) (own := own) (C := y.cls) ⟨hE.1, hE.2.1, hE.2.2.2.2.1, hE.2.2.2.2.2.1, ht⟩ (hM H.size) cw ⟨gblindM, va_recv hE.2.2.2.2.2.2.2.1 hP0 hc.1 he, fun U hU hW => ⟨rfl, by rw [hU], by rw [hU]; exact hP0, hE.2.2.2.2.2.2.2.warm hW, hD0.weaken (fun _ _ _ _ => trivial), by rw [hU]; exact ((hZ.kept hS.2.1).narrow (gA_mid hD hS hA)).moved hW.alike⟩⟩ rfl hn hls hst (lv_room hroom) hd hcs) hP hD hS hA pr po rfl hws h1 kk
end LAWR
abbrev lA (s : State) : Nat → Prop := fun q => s.heap.size ≤ q
def LE (p : Program) (c : Code) (meth : Method) (s : State) (m : MethodId) (g : GK) (b L : Nat) (xs : Nat → Int32) : Prop := GE p c meth s #[Value.ref b] m g RL code 7 ret ∧ va_X b L xs s s.heap ∧ b < s.heap.size ∧ gZ g (lA s) s s.heap ∧ gX s
abbrev LV (ls : Array Slot) (b ax am d : Nat) (i : Int32) : Prop := lv_has ls 7 [(0, .ref b), (1, .ref ax), (2, .ref am), (3, .ref d), (4, .int i)]
abbrev LI (i : Int32) (L : Nat) : Prop := vp_in (i + 1) L ∧ vp_in (i + 2) L ∧ vp_in (i + 3) L ∧ vp_in (i + 4) L ∧ vp_in (i + 5) L
/-- the script's int k behind i -/
abbrev sa (xs : Nat → Int32) (i k : Int32) : Int32 := xs (ix (i + k))
abbrev Lout (g : GK) (d : Nat) (t : Nat → Int64) : va_W := [(d, .inl (g.2.2.1, 1, .inr (.inl t)))]
section LAWA
variable {p : Program} {l : Launch} {e : Env} {R : Room} {s : State} {m : MethodId} {below : List Frame} {meth : Method} {c : Code} {H : Heap} {locs : List Loc} {cells slots : Nat} {Q : State → Prop} {g : GK} {ls : Array Slot} {pc : Nat} {b L ax am d : Nat} {xs : Nat → Int32} {i kv : Int32} {kn : Int} {rest : List Value}
theorem law_arg (hL : LE p c meth s m g b L xs) (hl : LV ls b ax am d i) (hS : va_S (lA s) s.heap H locs) (hin : vp_in (i + kv) L) (d0 : decode code pc = .ok (.aload_n 0, 1)) (d1 : decode code (pc + 1) = .ok (.iload 4, 2)) (d3 : decode code (pc + 3) = .ok (.iconst kn, 1)) (hk : Int32.ofInt kn = kv) (d4 : decode code (pc + 4) = .ok (.iadd, 1)) (d5 : decode code (pc + 5) = .ok (.iaload, 1))
    (kk : W p l e R s m #[Value.ref b] below meth c H locs cells slots Q (F0 m (pc + 6) ls (.int (sa xs i kv) :: rest))) : W p l e R s m #[Value.ref b] below meth c H locs cells slots Q (F0 m pc ls rest) := by
  have hx := hL.1.1
  have hb := hL.1.2.1
  refine lv_aload_n hx hb d0 rfl (lv_at hl 0 rfl) ?_
  refine lv_iload hx hb d1 (lv_at hl 4 rfl) ?_
  refine lv_iconst hx hb d3 hk ?_
  refine lv_iadd hx hb d4 ?_
  exact va_sld hx hb hL.2.1 hL.2.2.1 (Nat.not_le.mpr hL.2.2.1) hS hin d5 kk
end LAWA
