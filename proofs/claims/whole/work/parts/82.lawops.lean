section LAWO
variable {p : Program} {l : Launch} {e : Env} {s : State} {m : MethodId} {below : List Frame} {meth : Method} {c : Code} {H : Heap} {locs : List Loc} {cells slots : Nat} {Q : State → Prop} {g : GK} {ls : Array Slot} {b L ax d : Nat} {am : Nat → Nat} {xs : Nat → Int32} {i : Int32}
set_option maxHeartbeats 1000000 in
theorem lo_feed {X : Type} {rmC : Room} {w0 po : va_W} {w1 : X → va_W} {fs : List Value} {r : Int32} {mc ms : Nat} {sm sm' : MoT} {dv : Nat → Int64} (hL : LE p c meth s m g b L xs) (hl : LV ls b ax (am 0) d i) (hin : LI i L)
    (hM : gM l yX8_feed cX8_feed 7 (some .int) rmC g [.ref ax, .int (sa xs i 1), .int (sa xs i 2), .int (sa xs i 3), .int (sa xs i 4), .int (sa xs i 5)] w0 (fun _ => some (.int r)) w1 mc ms) (hrc : rmC.cells = mc ∧ rmC.slots = ms) (hrR : rmC.frames + 1 ≤ 14 ∧ 8 + (7 + 11) + rmC.locals ≤ 530) (he : w0[0]? = some (ax, .inr (9, fs)))
    (hf : f_X9_feed sm (sa xs i 1) (sa xs i 2) (sa xs i 3) (sa xs i 4) (sa xs i 5) = some (r, sm')) (hcs : cells + mc ≤ 601024 ∧ slots + ms ≤ 7293034)
    (hP : gP g (w0 ++ (po ++ (Mo_c g am sm ++ Lout g d dv))) H) (hD : va_D (lA s) (w0 ++ (po ++ (Mo_c g am sm ++ Lout g d dv)))) (hS : va_S (lA s) s.heap H locs)
    (next : ∀ (x : X) (H1 : Heap) (locs1 : List Loc), gP g (w1 x ++ (po ++ (Mo_c g am sm' ++ Lout g d dv))) H1 → va_D (lA s) (w1 x ++ (po ++ (Mo_c g am sm' ++ Lout g d dv))) → va_S (lA s) s.heap H1 locs1 → W p l e room_1 s m #[Value.ref b] below meth c H1 locs1 (cells + mc) (slots + ms) Q (F0 m 1571 ls [])) :
    W p l e room_1 s m #[Value.ref b] below meth c H locs cells slots Q (F0 m 216 ls []) := by
  have hE := hL.1
  have hx := hE.1
  have hb := hE.2.1
  have hZ := hL.2.2.2.1
  have hA : ∀ q : Nat, s.heap.size ≤ q → lA s q := fun _ h => h
  refine lv_aload_n hx hb dl_216 rfl (lv_at hl 1 rfl) ?_
  refine law_arg hL hl hS hin.1 dl_217 dl_218 dl_220 kci_1 dl_221 dl_222 ?_
  refine law_arg hL hl hS hin.2.1 dl_223 dl_224 dl_226 kci_2 dl_227 dl_228 ?_
  refine law_arg hL hl hS hin.2.2.1 dl_229 dl_230 dl_232 kci_3 dl_233 dl_234 ?_
  refine law_arg hL hl hS hin.2.2.2.1 dl_235 dl_236 dl_238 kci_4 dl_239 dl_240 ?_
  refine law_arg hL hl hS hin.2.2.2.2 dl_241 dl_242 dl_244 kci_5 dl_245 dl_246 ?_
  refine gm_callVp (As := [.int (sa xs i 1), .int (sa xs i 2), .int (sa xs i 3), .int (sa xs i 4), .int (sa xs i 5)]) (rest := []) (st1 := fun _ => [.int r]) (ws' := fun x => w1 x ++ (po ++ (Mo_c g am sm ++ Lout g d dv))) hE hl.1 ml_L_19 hM hZ hP hD hS hA [] (po ++ (Mo_c g am sm ++ Lout g d dv)) rfl (fun _ => rfl) okX8 he rfl rfl (fun _ => rfl) hrc hrR hcs (Nat.le_of_ble_eq_true rfl) dl_247 (fun x H locs hP hD hS => ?_)
  refine lv_aload_n hx hb dl_250 rfl (lv_at hl 2 rfl) ?_
  refine law_arg hL hl hS hin.1 dl_251 dl_252 dl_254 kci_1 dl_255 dl_256 ?_
  refine law_arg hL hl hS hin.2.1 dl_257 dl_258 dl_260 kci_2 dl_261 dl_262 ?_
  refine law_arg hL hl hS hin.2.2.1 dl_263 dl_264 dl_266 kci_3 dl_267 dl_268 ?_
  refine law_arg hL hl hS hin.2.2.2.1 dl_269 dl_270 dl_272 kci_4 dl_273 dl_274 ?_
  refine law_arg hL hl hS hin.2.2.2.2 dl_275 dl_276 dl_278 kci_5 dl_279 dl_280 ?_
  refine gm_callVp (As := [.int (sa xs i 1), .int (sa xs i 2), .int (sa xs i 3), .int (sa xs i 4), .int (sa xs i 5)]) (rest := [.int r]) (st1 := fun _ => [.int r, .int r]) (ws' := fun _ : Unit => w1 x ++ (po ++ (Mo_c g am sm' ++ Lout g d dv))) hE hl.1 ml_L_23 (c_X9_feed l g am sm (sa xs i 1) (sa xs i 2) (sa xs i 3) (sa xs i 4) (sa xs i 5) (r, sm') hf) hZ hP hD hS hA (w1 x ++ po) (Lout g d dv) (List.append_assoc _ _ _).symm (fun _ => List.append_assoc _ _ _) okX9 rfl rfl rfl (fun _ => rfl) ⟨rfl, rfl⟩ ⟨Nat.le_of_ble_eq_true rfl, Nat.le_of_ble_eq_true rfl⟩ hcs (Nat.le_of_ble_eq_true rfl) dl_281 (fun _ H locs hP hD hS => ?_)
  exact lv_icmp_eq hx hb dl_284 (tgt := 1571) rfl (fun _ => next x H locs hP hD hS) (fun h => absurd rfl h)
set_option maxHeartbeats 1000000 in
theorem lo_desk {X : Type} {rmC : Room} {w0 po : va_W} {w1 : X → va_W} {fs : List Value} {r : Int32} {mc ms : Nat} {sm sm' : MoT} {dv : Nat → Int64} (hL : LE p c meth s m g b L xs) (hl : LV ls b ax (am 0) d i) (hin : LI i L)
    (hM : gM l yX8_desk cX8_desk 2 (some .int) rmC g [.ref ax, .int (sa xs i 1)] w0 (fun _ => some (.int r)) w1 mc ms) (hrc : rmC.cells = mc ∧ rmC.slots = ms) (hrR : rmC.frames + 1 ≤ 14 ∧ 8 + (2 + 11) + rmC.locals ≤ 530) (he : w0[0]? = some (ax, .inr (9, fs)))
    (hf : f_X9_desk sm (sa xs i 1) = some (r, sm')) (hcs : cells + mc ≤ 601024 ∧ slots + ms ≤ 7293034)
    (hP : gP g (w0 ++ (po ++ (Mo_c g am sm ++ Lout g d dv))) H) (hD : va_D (lA s) (w0 ++ (po ++ (Mo_c g am sm ++ Lout g d dv)))) (hS : va_S (lA s) s.heap H locs)
    (next : ∀ (x : X) (H1 : Heap) (locs1 : List Loc), gP g (w1 x ++ (po ++ (Mo_c g am sm' ++ Lout g d dv))) H1 → va_D (lA s) (w1 x ++ (po ++ (Mo_c g am sm' ++ Lout g d dv))) → va_S (lA s) s.heap H1 locs1 → W p l e room_1 s m #[Value.ref b] below meth c H1 locs1 (cells + mc) (slots + ms) Q (F0 m 1571 ls [])) :
    W p l e room_1 s m #[Value.ref b] below meth c H locs cells slots Q (F0 m 289 ls []) := by
  have hE := hL.1
  have hx := hE.1
  have hb := hE.2.1
  have hZ := hL.2.2.2.1
  have hA : ∀ q : Nat, s.heap.size ≤ q → lA s q := fun _ h => h
  refine lv_aload_n hx hb dl_289 rfl (lv_at hl 1 rfl) ?_
  refine law_arg hL hl hS hin.1 dl_290 dl_291 dl_293 kci_1 dl_294 dl_295 ?_
  refine gm_callVp (As := [.int (sa xs i 1)]) (rest := []) (st1 := fun _ => [.int r]) (ws' := fun x => w1 x ++ (po ++ (Mo_c g am sm ++ Lout g d dv))) hE hl.1 ml_L_24 hM hZ hP hD hS hA [] (po ++ (Mo_c g am sm ++ Lout g d dv)) rfl (fun _ => rfl) okX8 he rfl rfl (fun _ => rfl) hrc hrR hcs (Nat.le_of_ble_eq_true rfl) dl_296 (fun x H locs hP hD hS => ?_)
  refine lv_aload_n hx hb dl_299 rfl (lv_at hl 2 rfl) ?_
  refine law_arg hL hl hS hin.1 dl_300 dl_301 dl_303 kci_1 dl_304 dl_305 ?_
  refine gm_callVp (As := [.int (sa xs i 1)]) (rest := [.int r]) (st1 := fun _ => [.int r, .int r]) (ws' := fun _ : Unit => w1 x ++ (po ++ (Mo_c g am sm' ++ Lout g d dv))) hE hl.1 ml_L_27 (c_X9_desk l g am sm (sa xs i 1) (r, sm') hf) hZ hP hD hS hA (w1 x ++ po) (Lout g d dv) (List.append_assoc _ _ _).symm (fun _ => List.append_assoc _ _ _) okX9 rfl rfl rfl (fun _ => rfl) ⟨rfl, rfl⟩ ⟨Nat.le_of_ble_eq_true rfl, Nat.le_of_ble_eq_true rfl⟩ hcs (Nat.le_of_ble_eq_true rfl) dl_306 (fun _ H locs hP hD hS => ?_)
  exact lv_icmp_eq hx hb dl_309 (tgt := 1571) rfl (fun _ => next x H locs hP hD hS) (fun h => absurd rfl h)
set_option maxHeartbeats 1000000 in
theorem lo_more {X : Type} {rmC : Room} {w0 po : va_W} {w1 : X → va_W} {fs : List Value} {r : Int32} {mc ms : Nat} {sm sm' : MoT} {dv : Nat → Int64} (hL : LE p c meth s m g b L xs) (hl : LV ls b ax (am 0) d i) (hin : LI i L)
    (hM : gM l yX8_more cX8_more 2 (some .int) rmC g [.ref ax, .int (sa xs i 1)] w0 (fun _ => some (.int r)) w1 mc ms) (hrc : rmC.cells = mc ∧ rmC.slots = ms) (hrR : rmC.frames + 1 ≤ 14 ∧ 8 + (2 + 11) + rmC.locals ≤ 530) (he : w0[0]? = some (ax, .inr (9, fs)))
    (hf : f_X9_more_ sm (sa xs i 1) = some (r, sm')) (hcs : cells + mc ≤ 601024 ∧ slots + ms ≤ 7293034)
    (hP : gP g (w0 ++ (po ++ (Mo_c g am sm ++ Lout g d dv))) H) (hD : va_D (lA s) (w0 ++ (po ++ (Mo_c g am sm ++ Lout g d dv)))) (hS : va_S (lA s) s.heap H locs)
    (next : ∀ (x : X) (H1 : Heap) (locs1 : List Loc), gP g (w1 x ++ (po ++ (Mo_c g am sm' ++ Lout g d dv))) H1 → va_D (lA s) (w1 x ++ (po ++ (Mo_c g am sm' ++ Lout g d dv))) → va_S (lA s) s.heap H1 locs1 → W p l e room_1 s m #[Value.ref b] below meth c H1 locs1 (cells + mc) (slots + ms) Q (F0 m 1571 ls [])) :
    W p l e room_1 s m #[Value.ref b] below meth c H locs cells slots Q (F0 m 314 ls []) := by
  have hE := hL.1
  have hx := hE.1
  have hb := hE.2.1
  have hZ := hL.2.2.2.1
  have hA : ∀ q : Nat, s.heap.size ≤ q → lA s q := fun _ h => h
  refine lv_aload_n hx hb dl_314 rfl (lv_at hl 1 rfl) ?_
  refine law_arg hL hl hS hin.1 dl_315 dl_316 dl_318 kci_1 dl_319 dl_320 ?_
  refine gm_callVp (As := [.int (sa xs i 1)]) (rest := []) (st1 := fun _ => [.int r]) (ws' := fun x => w1 x ++ (po ++ (Mo_c g am sm ++ Lout g d dv))) hE hl.1 ml_L_28 hM hZ hP hD hS hA [] (po ++ (Mo_c g am sm ++ Lout g d dv)) rfl (fun _ => rfl) okX8 he rfl rfl (fun _ => rfl) hrc hrR hcs (Nat.le_of_ble_eq_true rfl) dl_321 (fun x H locs hP hD hS => ?_)
  refine lv_aload_n hx hb dl_324 rfl (lv_at hl 2 rfl) ?_
  refine law_arg hL hl hS hin.1 dl_325 dl_326 dl_328 kci_1 dl_329 dl_330 ?_
  refine gm_callVp (As := [.int (sa xs i 1)]) (rest := [.int r]) (st1 := fun _ => [.int r, .int r]) (ws' := fun _ : Unit => w1 x ++ (po ++ (Mo_c g am sm' ++ Lout g d dv))) hE hl.1 ml_L_31 (c_X9_more_ l g am sm (sa xs i 1) (r, sm') hf) hZ hP hD hS hA (w1 x ++ po) (Lout g d dv) (List.append_assoc _ _ _).symm (fun _ => List.append_assoc _ _ _) okX9 rfl rfl rfl (fun _ => rfl) ⟨rfl, rfl⟩ ⟨Nat.le_of_ble_eq_true rfl, Nat.le_of_ble_eq_true rfl⟩ hcs (Nat.le_of_ble_eq_true rfl) dl_331 (fun _ H locs hP hD hS => ?_)
  exact lv_icmp_eq hx hb dl_334 (tgt := 1571) rfl (fun _ => next x H locs hP hD hS) (fun h => absurd rfl h)
set_option maxHeartbeats 1000000 in
theorem lo_fault {X : Type} {rmC : Room} {w0 po : va_W} {w1 : X → va_W} {fs : List Value} {r : Int32} {mc ms : Nat} {sm sm' : MoT} {dv : Nat → Int64} (hL : LE p c meth s m g b L xs) (hl : LV ls b ax (am 0) d i) (hin : LI i L)
    (hM : gM l yX8_fault cX8_fault 1 (some .int) rmC g [.ref ax] w0 (fun _ => some (.int r)) w1 mc ms) (hrc : rmC.cells = mc ∧ rmC.slots = ms) (hrR : rmC.frames + 1 ≤ 14 ∧ 8 + (1 + 11) + rmC.locals ≤ 530) (he : w0[0]? = some (ax, .inr (9, fs)))
    (hf : f_X9_fault sm = some (r, sm')) (hcs : cells + mc ≤ 601024 ∧ slots + ms ≤ 7293034)
    (hP : gP g (w0 ++ (po ++ (Mo_c g am sm ++ Lout g d dv))) H) (hD : va_D (lA s) (w0 ++ (po ++ (Mo_c g am sm ++ Lout g d dv)))) (hS : va_S (lA s) s.heap H locs)
    (next : ∀ (x : X) (H1 : Heap) (locs1 : List Loc), gP g (w1 x ++ (po ++ (Mo_c g am sm' ++ Lout g d dv))) H1 → va_D (lA s) (w1 x ++ (po ++ (Mo_c g am sm' ++ Lout g d dv))) → va_S (lA s) s.heap H1 locs1 → W p l e room_1 s m #[Value.ref b] below meth c H1 locs1 (cells + mc) (slots + ms) Q (F0 m 1571 ls [])) :
    W p l e room_1 s m #[Value.ref b] below meth c H locs cells slots Q (F0 m 339 ls []) := by
  have hE := hL.1
  have hx := hE.1
  have hb := hE.2.1
  have hZ := hL.2.2.2.1
  have hA : ∀ q : Nat, s.heap.size ≤ q → lA s q := fun _ h => h
  refine lv_aload_n hx hb dl_339 rfl (lv_at hl 1 rfl) ?_
  refine gm_callVp (As := []) (rest := []) (st1 := fun _ => [.int r]) (ws' := fun x => w1 x ++ (po ++ (Mo_c g am sm ++ Lout g d dv))) hE hl.1 ml_L_32 hM hZ hP hD hS hA [] (po ++ (Mo_c g am sm ++ Lout g d dv)) rfl (fun _ => rfl) okX8 he rfl rfl (fun _ => rfl) hrc hrR hcs (Nat.le_of_ble_eq_true rfl) dl_340 (fun x H locs hP hD hS => ?_)
  refine lv_aload_n hx hb dl_343 rfl (lv_at hl 2 rfl) ?_
  refine gm_callVp (As := []) (rest := [.int r]) (st1 := fun _ => [.int r, .int r]) (ws' := fun _ : Unit => w1 x ++ (po ++ (Mo_c g am sm' ++ Lout g d dv))) hE hl.1 ml_L_36 (c_X9_fault l g am sm (r, sm') hf) hZ hP hD hS hA (w1 x ++ po) (Lout g d dv) (List.append_assoc _ _ _).symm (fun _ => List.append_assoc _ _ _) okX9 rfl rfl rfl (fun _ => rfl) ⟨rfl, rfl⟩ ⟨Nat.le_of_ble_eq_true rfl, Nat.le_of_ble_eq_true rfl⟩ hcs (Nat.le_of_ble_eq_true rfl) dl_344 (fun _ H locs hP hD hS => ?_)
  exact lv_icmp_eq hx hb dl_347 (tgt := 1571) rfl (fun _ => next x H locs hP hD hS) (fun h => absurd rfl h)
set_option maxHeartbeats 1000000 in
theorem lo_where {X : Type} {rmC : Room} {w0 po : va_W} {w1 : X → va_W} {fs : List Value} {r : Int32} {mc ms : Nat} {sm sm' : MoT} {dv : Nat → Int64} (hL : LE p c meth s m g b L xs) (hl : LV ls b ax (am 0) d i) (hin : LI i L)
    (hM : gM l yX8_where cX8_where 1 (some .int) rmC g [.ref ax] w0 (fun _ => some (.int r)) w1 mc ms) (hrc : rmC.cells = mc ∧ rmC.slots = ms) (hrR : rmC.frames + 1 ≤ 14 ∧ 8 + (1 + 11) + rmC.locals ≤ 530) (he : w0[0]? = some (ax, .inr (9, fs)))
    (hf : f_X9_where sm = some (r, sm')) (hcs : cells + mc ≤ 601024 ∧ slots + ms ≤ 7293034)
    (hP : gP g (w0 ++ (po ++ (Mo_c g am sm ++ Lout g d dv))) H) (hD : va_D (lA s) (w0 ++ (po ++ (Mo_c g am sm ++ Lout g d dv)))) (hS : va_S (lA s) s.heap H locs)
    (next : ∀ (x : X) (H1 : Heap) (locs1 : List Loc), gP g (w1 x ++ (po ++ (Mo_c g am sm' ++ Lout g d dv))) H1 → va_D (lA s) (w1 x ++ (po ++ (Mo_c g am sm' ++ Lout g d dv))) → va_S (lA s) s.heap H1 locs1 → W p l e room_1 s m #[Value.ref b] below meth c H1 locs1 (cells + mc) (slots + ms) Q (F0 m 1571 ls [])) :
    W p l e room_1 s m #[Value.ref b] below meth c H locs cells slots Q (F0 m 352 ls []) := by
  have hE := hL.1
  have hx := hE.1
  have hb := hE.2.1
  have hZ := hL.2.2.2.1
  have hA : ∀ q : Nat, s.heap.size ≤ q → lA s q := fun _ h => h
  refine lv_aload_n hx hb dl_352 rfl (lv_at hl 1 rfl) ?_
  refine gm_callVp (As := []) (rest := []) (st1 := fun _ => [.int r]) (ws' := fun x => w1 x ++ (po ++ (Mo_c g am sm ++ Lout g d dv))) hE hl.1 ml_L_37 hM hZ hP hD hS hA [] (po ++ (Mo_c g am sm ++ Lout g d dv)) rfl (fun _ => rfl) okX8 he rfl rfl (fun _ => rfl) hrc hrR hcs (Nat.le_of_ble_eq_true rfl) dl_353 (fun x H locs hP hD hS => ?_)
  refine lv_aload_n hx hb dl_356 rfl (lv_at hl 2 rfl) ?_
  refine gm_callVp (As := []) (rest := [.int r]) (st1 := fun _ => [.int r, .int r]) (ws' := fun _ : Unit => w1 x ++ (po ++ (Mo_c g am sm' ++ Lout g d dv))) hE hl.1 ml_L_40 (c_X9_where l g am sm (r, sm') hf) hZ hP hD hS hA (w1 x ++ po) (Lout g d dv) (List.append_assoc _ _ _).symm (fun _ => List.append_assoc _ _ _) okX9 rfl rfl rfl (fun _ => rfl) ⟨rfl, rfl⟩ ⟨Nat.le_of_ble_eq_true rfl, Nat.le_of_ble_eq_true rfl⟩ hcs (Nat.le_of_ble_eq_true rfl) dl_357 (fun _ H locs hP hD hS => ?_)
  exact lv_icmp_eq hx hb dl_360 (tgt := 1571) rfl (fun _ => next x H locs hP hD hS) (fun h => absurd rfl h)
set_option maxHeartbeats 1000000 in
theorem lo_about {X : Type} {rmC : Room} {w0 po : va_W} {w1 : X → va_W} {fs : List Value} {r : Int32} {mc ms : Nat} {sm sm' : MoT} {dv : Nat → Int64} (hL : LE p c meth s m g b L xs) (hl : LV ls b ax (am 0) d i) (hin : LI i L)
    (hM : gM l yX8_about cX8_about 2 (some .int) rmC g [.ref ax, .int (sa xs i 1)] w0 (fun _ => some (.int r)) w1 mc ms) (hrc : rmC.cells = mc ∧ rmC.slots = ms) (hrR : rmC.frames + 1 ≤ 14 ∧ 8 + (2 + 11) + rmC.locals ≤ 530) (he : w0[0]? = some (ax, .inr (9, fs)))
    (hf : f_X9_about sm (sa xs i 1) = some (r, sm')) (hcs : cells + mc ≤ 601024 ∧ slots + ms ≤ 7293034)
    (hP : gP g (w0 ++ (po ++ (Mo_c g am sm ++ Lout g d dv))) H) (hD : va_D (lA s) (w0 ++ (po ++ (Mo_c g am sm ++ Lout g d dv)))) (hS : va_S (lA s) s.heap H locs)
    (next : ∀ (x : X) (H1 : Heap) (locs1 : List Loc), gP g (w1 x ++ (po ++ (Mo_c g am sm' ++ Lout g d dv))) H1 → va_D (lA s) (w1 x ++ (po ++ (Mo_c g am sm' ++ Lout g d dv))) → va_S (lA s) s.heap H1 locs1 → W p l e room_1 s m #[Value.ref b] below meth c H1 locs1 (cells + mc) (slots + ms) Q (F0 m 1571 ls [])) :
    W p l e room_1 s m #[Value.ref b] below meth c H locs cells slots Q (F0 m 365 ls []) := by
  have hE := hL.1
  have hx := hE.1
  have hb := hE.2.1
  have hZ := hL.2.2.2.1
  have hA : ∀ q : Nat, s.heap.size ≤ q → lA s q := fun _ h => h
  refine lv_aload_n hx hb dl_365 rfl (lv_at hl 1 rfl) ?_
  refine law_arg hL hl hS hin.1 dl_366 dl_367 dl_369 kci_1 dl_370 dl_371 ?_
  refine gm_callVp (As := [.int (sa xs i 1)]) (rest := []) (st1 := fun _ => [.int r]) (ws' := fun x => w1 x ++ (po ++ (Mo_c g am sm ++ Lout g d dv))) hE hl.1 ml_L_41 hM hZ hP hD hS hA [] (po ++ (Mo_c g am sm ++ Lout g d dv)) rfl (fun _ => rfl) okX8 he rfl rfl (fun _ => rfl) hrc hrR hcs (Nat.le_of_ble_eq_true rfl) dl_372 (fun x H locs hP hD hS => ?_)
  refine lv_aload_n hx hb dl_375 rfl (lv_at hl 2 rfl) ?_
  refine law_arg hL hl hS hin.1 dl_376 dl_377 dl_379 kci_1 dl_380 dl_381 ?_
  refine gm_callVp (As := [.int (sa xs i 1)]) (rest := [.int r]) (st1 := fun _ => [.int r, .int r]) (ws' := fun _ : Unit => w1 x ++ (po ++ (Mo_c g am sm' ++ Lout g d dv))) hE hl.1 ml_L_44 (c_X9_about l g am sm (sa xs i 1) (r, sm') hf) hZ hP hD hS hA (w1 x ++ po) (Lout g d dv) (List.append_assoc _ _ _).symm (fun _ => List.append_assoc _ _ _) okX9 rfl rfl rfl (fun _ => rfl) ⟨rfl, rfl⟩ ⟨Nat.le_of_ble_eq_true rfl, Nat.le_of_ble_eq_true rfl⟩ hcs (Nat.le_of_ble_eq_true rfl) dl_382 (fun _ H locs hP hD hS => ?_)
  exact lv_icmp_eq hx hb dl_385 (tgt := 1571) rfl (fun _ => next x H locs hP hD hS) (fun h => absurd rfl h)
set_option maxHeartbeats 1000000 in
theorem lo_letter {X : Type} {rmC : Room} {w0 po : va_W} {w1 : X → va_W} {fs : List Value} {r : Int32} {mc ms : Nat} {sm sm' : MoT} {dv : Nat → Int64} (hL : LE p c meth s m g b L xs) (hl : LV ls b ax (am 0) d i) (hin : LI i L)
    (hM : gM l yX8_letter cX8_letter 5 (some .int) rmC g [.ref ax, .int (sa xs i 1), .int (sa xs i 2), .int (sa xs i 3)] w0 (fun _ => some (.int r)) w1 mc ms) (hrc : rmC.cells = mc ∧ rmC.slots = ms) (hrR : rmC.frames + 1 ≤ 14 ∧ 8 + (5 + 11) + rmC.locals ≤ 530) (he : w0[0]? = some (ax, .inr (9, fs)))
    (hf : f_X9_letter sm (sa xs i 1) (sa xs i 2) (sa xs i 3) = some (r, sm')) (hcs : cells + mc ≤ 601024 ∧ slots + ms ≤ 7293034)
    (hP : gP g (w0 ++ (po ++ (Mo_c g am sm ++ Lout g d dv))) H) (hD : va_D (lA s) (w0 ++ (po ++ (Mo_c g am sm ++ Lout g d dv)))) (hS : va_S (lA s) s.heap H locs)
    (next : ∀ (x : X) (H1 : Heap) (locs1 : List Loc), gP g (w1 x ++ (po ++ (Mo_c g am sm' ++ Lout g d dv))) H1 → va_D (lA s) (w1 x ++ (po ++ (Mo_c g am sm' ++ Lout g d dv))) → va_S (lA s) s.heap H1 locs1 → W p l e room_1 s m #[Value.ref b] below meth c H1 locs1 (cells + mc) (slots + ms) Q (F0 m 1571 ls [])) :
    W p l e room_1 s m #[Value.ref b] below meth c H locs cells slots Q (F0 m 390 ls []) := by
  have hE := hL.1
  have hx := hE.1
  have hb := hE.2.1
  have hZ := hL.2.2.2.1
  have hA : ∀ q : Nat, s.heap.size ≤ q → lA s q := fun _ h => h
  refine lv_aload_n hx hb dl_390 rfl (lv_at hl 1 rfl) ?_
  refine law_arg hL hl hS hin.1 dl_391 dl_392 dl_394 kci_1 dl_395 dl_396 ?_
  refine law_arg hL hl hS hin.2.1 dl_397 dl_398 dl_400 kci_2 dl_401 dl_402 ?_
  refine law_arg hL hl hS hin.2.2.1 dl_403 dl_404 dl_406 kci_3 dl_407 dl_408 ?_
  refine gm_callVp (As := [.int (sa xs i 1), .int (sa xs i 2), .int (sa xs i 3)]) (rest := []) (st1 := fun _ => [.int r]) (ws' := fun x => w1 x ++ (po ++ (Mo_c g am sm ++ Lout g d dv))) hE hl.1 ml_L_45 hM hZ hP hD hS hA [] (po ++ (Mo_c g am sm ++ Lout g d dv)) rfl (fun _ => rfl) okX8 he rfl rfl (fun _ => rfl) hrc hrR hcs (Nat.le_of_ble_eq_true rfl) dl_409 (fun x H locs hP hD hS => ?_)
  refine lv_aload_n hx hb dl_412 rfl (lv_at hl 2 rfl) ?_
  refine law_arg hL hl hS hin.1 dl_413 dl_414 dl_416 kci_1 dl_417 dl_418 ?_
  refine law_arg hL hl hS hin.2.1 dl_419 dl_420 dl_422 kci_2 dl_423 dl_424 ?_
  refine law_arg hL hl hS hin.2.2.1 dl_425 dl_426 dl_428 kci_3 dl_429 dl_430 ?_
  refine gm_callVp (As := [.int (sa xs i 1), .int (sa xs i 2), .int (sa xs i 3)]) (rest := [.int r]) (st1 := fun _ => [.int r, .int r]) (ws' := fun _ : Unit => w1 x ++ (po ++ (Mo_c g am sm' ++ Lout g d dv))) hE hl.1 ml_L_49 (c_X9_letter l g am sm (sa xs i 1) (sa xs i 2) (sa xs i 3) (r, sm') hf) hZ hP hD hS hA (w1 x ++ po) (Lout g d dv) (List.append_assoc _ _ _).symm (fun _ => List.append_assoc _ _ _) okX9 rfl rfl rfl (fun _ => rfl) ⟨rfl, rfl⟩ ⟨Nat.le_of_ble_eq_true rfl, Nat.le_of_ble_eq_true rfl⟩ hcs (Nat.le_of_ble_eq_true rfl) dl_431 (fun _ H locs hP hD hS => ?_)
  exact lv_icmp_eq hx hb dl_434 (tgt := 1571) rfl (fun _ => next x H locs hP hD hS) (fun h => absurd rfl h)
set_option maxHeartbeats 1000000 in
theorem lo_net {X : Type} {rmC : Room} {w0 po : va_W} {w1 : X → va_W} {fs : List Value} {r : Int32} {mc ms : Nat} {sm sm' : MoT} {dv : Nat → Int64} (hL : LE p c meth s m g b L xs) (hl : LV ls b ax (am 0) d i) (hin : LI i L)
    (hM : gM l yX8_net cX8_net 4 (some .int) rmC g [.ref ax, .int (sa xs i 1), .int (sa xs i 2), .int (sa xs i 3)] w0 (fun _ => some (.int r)) w1 mc ms) (hrc : rmC.cells = mc ∧ rmC.slots = ms) (hrR : rmC.frames + 1 ≤ 14 ∧ 8 + (4 + 11) + rmC.locals ≤ 530) (he : w0[0]? = some (ax, .inr (9, fs)))
    (hf : f_X9_net sm (sa xs i 1) (sa xs i 2) (sa xs i 3) = some (r, sm')) (hcs : cells + mc ≤ 601024 ∧ slots + ms ≤ 7293034)
    (hP : gP g (w0 ++ (po ++ (Mo_c g am sm ++ Lout g d dv))) H) (hD : va_D (lA s) (w0 ++ (po ++ (Mo_c g am sm ++ Lout g d dv)))) (hS : va_S (lA s) s.heap H locs)
    (next : ∀ (x : X) (H1 : Heap) (locs1 : List Loc), gP g (w1 x ++ (po ++ (Mo_c g am sm' ++ Lout g d dv))) H1 → va_D (lA s) (w1 x ++ (po ++ (Mo_c g am sm' ++ Lout g d dv))) → va_S (lA s) s.heap H1 locs1 → W p l e room_1 s m #[Value.ref b] below meth c H1 locs1 (cells + mc) (slots + ms) Q (F0 m 1571 ls [])) :
    W p l e room_1 s m #[Value.ref b] below meth c H locs cells slots Q (F0 m 439 ls []) := by
  have hE := hL.1
  have hx := hE.1
  have hb := hE.2.1
  have hZ := hL.2.2.2.1
  have hA : ∀ q : Nat, s.heap.size ≤ q → lA s q := fun _ h => h
  refine lv_aload_n hx hb dl_439 rfl (lv_at hl 1 rfl) ?_
  refine law_arg hL hl hS hin.1 dl_440 dl_441 dl_443 kci_1 dl_444 dl_445 ?_
  refine law_arg hL hl hS hin.2.1 dl_446 dl_447 dl_449 kci_2 dl_450 dl_451 ?_
  refine law_arg hL hl hS hin.2.2.1 dl_452 dl_453 dl_455 kci_3 dl_456 dl_457 ?_
  refine gm_callVp (As := [.int (sa xs i 1), .int (sa xs i 2), .int (sa xs i 3)]) (rest := []) (st1 := fun _ => [.int r]) (ws' := fun x => w1 x ++ (po ++ (Mo_c g am sm ++ Lout g d dv))) hE hl.1 ml_L_50 hM hZ hP hD hS hA [] (po ++ (Mo_c g am sm ++ Lout g d dv)) rfl (fun _ => rfl) okX8 he rfl rfl (fun _ => rfl) hrc hrR hcs (Nat.le_of_ble_eq_true rfl) dl_458 (fun x H locs hP hD hS => ?_)
  refine lv_aload_n hx hb dl_461 rfl (lv_at hl 2 rfl) ?_
  refine law_arg hL hl hS hin.1 dl_462 dl_463 dl_465 kci_1 dl_466 dl_467 ?_
  refine law_arg hL hl hS hin.2.1 dl_468 dl_469 dl_471 kci_2 dl_472 dl_473 ?_
  refine law_arg hL hl hS hin.2.2.1 dl_474 dl_475 dl_477 kci_3 dl_478 dl_479 ?_
  refine gm_callVp (As := [.int (sa xs i 1), .int (sa xs i 2), .int (sa xs i 3)]) (rest := [.int r]) (st1 := fun _ => [.int r, .int r]) (ws' := fun _ : Unit => w1 x ++ (po ++ (Mo_c g am sm' ++ Lout g d dv))) hE hl.1 ml_L_53 (c_X9_net l g am sm (sa xs i 1) (sa xs i 2) (sa xs i 3) (r, sm') hf) hZ hP hD hS hA (w1 x ++ po) (Lout g d dv) (List.append_assoc _ _ _).symm (fun _ => List.append_assoc _ _ _) okX9 rfl rfl rfl (fun _ => rfl) ⟨rfl, rfl⟩ ⟨Nat.le_of_ble_eq_true rfl, Nat.le_of_ble_eq_true rfl⟩ hcs (Nat.le_of_ble_eq_true rfl) dl_480 (fun _ H locs hP hD hS => ?_)
  exact lv_icmp_eq hx hb dl_483 (tgt := 1571) rfl (fun _ => next x H locs hP hD hS) (fun h => absurd rfl h)
set_option maxHeartbeats 1000000 in
theorem lo_there {X : Type} {rmC : Room} {w0 po : va_W} {w1 : X → va_W} {fs : List Value} {r : Int32} {mc ms : Nat} {sm sm' : MoT} {dv : Nat → Int64} (hL : LE p c meth s m g b L xs) (hl : LV ls b ax (am 0) d i) (hin : LI i L)
    (hM : gM l yX8_there cX8_there 3 (some .int) rmC g [.ref ax, .int (sa xs i 1), .int (sa xs i 2)] w0 (fun _ => some (.int r)) w1 mc ms) (hrc : rmC.cells = mc ∧ rmC.slots = ms) (hrR : rmC.frames + 1 ≤ 14 ∧ 8 + (3 + 11) + rmC.locals ≤ 530) (he : w0[0]? = some (ax, .inr (9, fs)))
    (hf : f_X9_there sm (sa xs i 1) (sa xs i 2) = some (r, sm')) (hcs : cells + mc ≤ 601024 ∧ slots + ms ≤ 7293034)
    (hP : gP g (w0 ++ (po ++ (Mo_c g am sm ++ Lout g d dv))) H) (hD : va_D (lA s) (w0 ++ (po ++ (Mo_c g am sm ++ Lout g d dv)))) (hS : va_S (lA s) s.heap H locs)
    (next : ∀ (x : X) (H1 : Heap) (locs1 : List Loc), gP g (w1 x ++ (po ++ (Mo_c g am sm' ++ Lout g d dv))) H1 → va_D (lA s) (w1 x ++ (po ++ (Mo_c g am sm' ++ Lout g d dv))) → va_S (lA s) s.heap H1 locs1 → W p l e room_1 s m #[Value.ref b] below meth c H1 locs1 (cells + mc) (slots + ms) Q (F0 m 1571 ls [])) :
    W p l e room_1 s m #[Value.ref b] below meth c H locs cells slots Q (F0 m 488 ls []) := by
  have hE := hL.1
  have hx := hE.1
  have hb := hE.2.1
  have hZ := hL.2.2.2.1
  have hA : ∀ q : Nat, s.heap.size ≤ q → lA s q := fun _ h => h
  refine lv_aload_n hx hb dl_488 rfl (lv_at hl 1 rfl) ?_
  refine law_arg hL hl hS hin.1 dl_489 dl_490 dl_492 kci_1 dl_493 dl_494 ?_
  refine law_arg hL hl hS hin.2.1 dl_495 dl_496 dl_498 kci_2 dl_499 dl_500 ?_
  refine gm_callVp (As := [.int (sa xs i 1), .int (sa xs i 2)]) (rest := []) (st1 := fun _ => [.int r]) (ws' := fun x => w1 x ++ (po ++ (Mo_c g am sm ++ Lout g d dv))) hE hl.1 ml_L_54 hM hZ hP hD hS hA [] (po ++ (Mo_c g am sm ++ Lout g d dv)) rfl (fun _ => rfl) okX8 he rfl rfl (fun _ => rfl) hrc hrR hcs (Nat.le_of_ble_eq_true rfl) dl_501 (fun x H locs hP hD hS => ?_)
  refine lv_aload_n hx hb dl_504 rfl (lv_at hl 2 rfl) ?_
  refine law_arg hL hl hS hin.1 dl_505 dl_506 dl_508 kci_1 dl_509 dl_510 ?_
  refine law_arg hL hl hS hin.2.1 dl_511 dl_512 dl_514 kci_2 dl_515 dl_516 ?_
  refine gm_callVp (As := [.int (sa xs i 1), .int (sa xs i 2)]) (rest := [.int r]) (st1 := fun _ => [.int r, .int r]) (ws' := fun _ : Unit => w1 x ++ (po ++ (Mo_c g am sm' ++ Lout g d dv))) hE hl.1 ml_L_58 (c_X9_there l g am sm (sa xs i 1) (sa xs i 2) (r, sm') hf) hZ hP hD hS hA (w1 x ++ po) (Lout g d dv) (List.append_assoc _ _ _).symm (fun _ => List.append_assoc _ _ _) okX9 rfl rfl rfl (fun _ => rfl) ⟨rfl, rfl⟩ ⟨Nat.le_of_ble_eq_true rfl, Nat.le_of_ble_eq_true rfl⟩ hcs (Nat.le_of_ble_eq_true rfl) dl_517 (fun _ H locs hP hD hS => ?_)
  exact lv_icmp_eq hx hb dl_520 (tgt := 1571) rfl (fun _ => next x H locs hP hD hS) (fun h => absurd rfl h)
set_option maxHeartbeats 1000000 in
theorem lo_key {X : Type} {rmC : Room} {w0 po : va_W} {w1 : X → va_W} {fs : List Value} {r : Int32} {mc ms : Nat} {sm sm' : MoT} {dv : Nat → Int64} (hL : LE p c meth s m g b L xs) (hl : LV ls b ax (am 0) d i) (hin : LI i L)
    (hM : gM l yX8_key cX8_key 3 (some .int) rmC g [.ref ax, .int (sa xs i 1), .int (sa xs i 2)] w0 (fun _ => some (.int r)) w1 mc ms) (hrc : rmC.cells = mc ∧ rmC.slots = ms) (hrR : rmC.frames + 1 ≤ 14 ∧ 8 + (3 + 11) + rmC.locals ≤ 530) (he : w0[0]? = some (ax, .inr (9, fs)))
    (hf : f_X9_key sm (sa xs i 1) (sa xs i 2) = some (r, sm')) (hcs : cells + mc ≤ 601024 ∧ slots + ms ≤ 7293034)
    (hP : gP g (w0 ++ (po ++ (Mo_c g am sm ++ Lout g d dv))) H) (hD : va_D (lA s) (w0 ++ (po ++ (Mo_c g am sm ++ Lout g d dv)))) (hS : va_S (lA s) s.heap H locs)
    (next : ∀ (x : X) (H1 : Heap) (locs1 : List Loc), gP g (w1 x ++ (po ++ (Mo_c g am sm' ++ Lout g d dv))) H1 → va_D (lA s) (w1 x ++ (po ++ (Mo_c g am sm' ++ Lout g d dv))) → va_S (lA s) s.heap H1 locs1 → W p l e room_1 s m #[Value.ref b] below meth c H1 locs1 (cells + mc) (slots + ms) Q (F0 m 1571 ls [])) :
    W p l e room_1 s m #[Value.ref b] below meth c H locs cells slots Q (F0 m 525 ls []) := by
  have hE := hL.1
  have hx := hE.1
  have hb := hE.2.1
  have hZ := hL.2.2.2.1
  have hA : ∀ q : Nat, s.heap.size ≤ q → lA s q := fun _ h => h
  refine lv_aload_n hx hb dl_525 rfl (lv_at hl 1 rfl) ?_
  refine law_arg hL hl hS hin.1 dl_526 dl_527 dl_529 kci_1 dl_530 dl_531 ?_
  refine law_arg hL hl hS hin.2.1 dl_532 dl_533 dl_535 kci_2 dl_536 dl_537 ?_
  refine gm_callVp (As := [.int (sa xs i 1), .int (sa xs i 2)]) (rest := []) (st1 := fun _ => [.int r]) (ws' := fun x => w1 x ++ (po ++ (Mo_c g am sm ++ Lout g d dv))) hE hl.1 ml_L_59 hM hZ hP hD hS hA [] (po ++ (Mo_c g am sm ++ Lout g d dv)) rfl (fun _ => rfl) okX8 he rfl rfl (fun _ => rfl) hrc hrR hcs (Nat.le_of_ble_eq_true rfl) dl_538 (fun x H locs hP hD hS => ?_)
  refine lv_aload_n hx hb dl_541 rfl (lv_at hl 2 rfl) ?_
  refine law_arg hL hl hS hin.1 dl_542 dl_543 dl_545 kci_1 dl_546 dl_547 ?_
  refine law_arg hL hl hS hin.2.1 dl_548 dl_549 dl_551 kci_2 dl_552 dl_553 ?_
  refine gm_callVp (As := [.int (sa xs i 1), .int (sa xs i 2)]) (rest := [.int r]) (st1 := fun _ => [.int r, .int r]) (ws' := fun _ : Unit => w1 x ++ (po ++ (Mo_c g am sm' ++ Lout g d dv))) hE hl.1 ml_L_62 (c_X9_key l g am sm (sa xs i 1) (sa xs i 2) (r, sm') hf) hZ hP hD hS hA (w1 x ++ po) (Lout g d dv) (List.append_assoc _ _ _).symm (fun _ => List.append_assoc _ _ _) okX9 rfl rfl rfl (fun _ => rfl) ⟨rfl, rfl⟩ ⟨Nat.le_of_ble_eq_true rfl, Nat.le_of_ble_eq_true rfl⟩ hcs (Nat.le_of_ble_eq_true rfl) dl_554 (fun _ H locs hP hD hS => ?_)
  exact lv_icmp_eq hx hb dl_557 (tgt := 1571) rfl (fun _ => next x H locs hP hD hS) (fun h => absurd rfl h)
set_option maxHeartbeats 1000000 in
theorem lo_debts {X : Type} {rmC : Room} {w0 po : va_W} {w1 : X → va_W} {fs : List Value} {r : Int32} {mc ms : Nat} {sm sm' : MoT} {dv : Nat → Int64} (hL : LE p c meth s m g b L xs) (hl : LV ls b ax (am 0) d i) (hin : LI i L)
    (hM : gM l yX8_debts cX8_debts 2 (some .int) rmC g [.ref ax, .int (sa xs i 1)] w0 (fun _ => some (.int r)) w1 mc ms) (hrc : rmC.cells = mc ∧ rmC.slots = ms) (hrR : rmC.frames + 1 ≤ 14 ∧ 8 + (2 + 11) + rmC.locals ≤ 530) (he : w0[0]? = some (ax, .inr (9, fs)))
    (hf : f_X9_debts sm (sa xs i 1) = some (r, sm')) (hcs : cells + mc ≤ 601024 ∧ slots + ms ≤ 7293034)
    (hP : gP g (w0 ++ (po ++ (Mo_c g am sm ++ Lout g d dv))) H) (hD : va_D (lA s) (w0 ++ (po ++ (Mo_c g am sm ++ Lout g d dv)))) (hS : va_S (lA s) s.heap H locs)
    (next : ∀ (x : X) (H1 : Heap) (locs1 : List Loc), gP g (w1 x ++ (po ++ (Mo_c g am sm' ++ Lout g d dv))) H1 → va_D (lA s) (w1 x ++ (po ++ (Mo_c g am sm' ++ Lout g d dv))) → va_S (lA s) s.heap H1 locs1 → W p l e room_1 s m #[Value.ref b] below meth c H1 locs1 (cells + mc) (slots + ms) Q (F0 m 1571 ls [])) :
    W p l e room_1 s m #[Value.ref b] below meth c H locs cells slots Q (F0 m 562 ls []) := by
  have hE := hL.1
  have hx := hE.1
  have hb := hE.2.1
  have hZ := hL.2.2.2.1
  have hA : ∀ q : Nat, s.heap.size ≤ q → lA s q := fun _ h => h
  refine lv_aload_n hx hb dl_562 rfl (lv_at hl 1 rfl) ?_
  refine law_arg hL hl hS hin.1 dl_563 dl_564 dl_566 kci_1 dl_567 dl_568 ?_
  refine gm_callVp (As := [.int (sa xs i 1)]) (rest := []) (st1 := fun _ => [.int r]) (ws' := fun x => w1 x ++ (po ++ (Mo_c g am sm ++ Lout g d dv))) hE hl.1 ml_L_63 hM hZ hP hD hS hA [] (po ++ (Mo_c g am sm ++ Lout g d dv)) rfl (fun _ => rfl) okX8 he rfl rfl (fun _ => rfl) hrc hrR hcs (Nat.le_of_ble_eq_true rfl) dl_569 (fun x H locs hP hD hS => ?_)
  refine lv_aload_n hx hb dl_572 rfl (lv_at hl 2 rfl) ?_
  refine law_arg hL hl hS hin.1 dl_573 dl_574 dl_576 kci_1 dl_577 dl_578 ?_
  refine gm_callVp (As := [.int (sa xs i 1)]) (rest := [.int r]) (st1 := fun _ => [.int r, .int r]) (ws' := fun _ : Unit => w1 x ++ (po ++ (Mo_c g am sm' ++ Lout g d dv))) hE hl.1 ml_L_66 (c_X9_debts l g am sm (sa xs i 1) (r, sm') hf) hZ hP hD hS hA (w1 x ++ po) (Lout g d dv) (List.append_assoc _ _ _).symm (fun _ => List.append_assoc _ _ _) okX9 rfl rfl rfl (fun _ => rfl) ⟨rfl, rfl⟩ ⟨Nat.le_of_ble_eq_true rfl, Nat.le_of_ble_eq_true rfl⟩ hcs (Nat.le_of_ble_eq_true rfl) dl_579 (fun _ H locs hP hD hS => ?_)
  exact lv_icmp_eq hx hb dl_582 (tgt := 1571) rfl (fun _ => next x H locs hP hD hS) (fun h => absurd rfl h)
set_option maxHeartbeats 1000000 in
theorem lo_sent {X : Type} {rmC : Room} {w0 po : va_W} {w1 : X → va_W} {fs : List Value} {r : Int32} {mc ms : Nat} {sm sm' : MoT} {dv : Nat → Int64} (hL : LE p c meth s m g b L xs) (hl : LV ls b ax (am 0) d i) (hin : LI i L)
    (hM : gM l yX8_sent cX8_sent 4 (some .int) rmC g [.ref ax, .int (sa xs i 1), .int (sa xs i 2), .int (sa xs i 3)] w0 (fun _ => some (.int r)) w1 mc ms) (hrc : rmC.cells = mc ∧ rmC.slots = ms) (hrR : rmC.frames + 1 ≤ 14 ∧ 8 + (4 + 11) + rmC.locals ≤ 530) (he : w0[0]? = some (ax, .inr (9, fs)))
    (hf : f_X9_sent sm (sa xs i 1) (sa xs i 2) (sa xs i 3) = some (r, sm')) (hcs : cells + mc ≤ 601024 ∧ slots + ms ≤ 7293034)
    (hP : gP g (w0 ++ (po ++ (Mo_c g am sm ++ Lout g d dv))) H) (hD : va_D (lA s) (w0 ++ (po ++ (Mo_c g am sm ++ Lout g d dv)))) (hS : va_S (lA s) s.heap H locs)
    (next : ∀ (x : X) (H1 : Heap) (locs1 : List Loc), gP g (w1 x ++ (po ++ (Mo_c g am sm' ++ Lout g d dv))) H1 → va_D (lA s) (w1 x ++ (po ++ (Mo_c g am sm' ++ Lout g d dv))) → va_S (lA s) s.heap H1 locs1 → W p l e room_1 s m #[Value.ref b] below meth c H1 locs1 (cells + mc) (slots + ms) Q (F0 m 1571 ls [])) :
    W p l e room_1 s m #[Value.ref b] below meth c H locs cells slots Q (F0 m 587 ls []) := by
  have hE := hL.1
  have hx := hE.1
  have hb := hE.2.1
  have hZ := hL.2.2.2.1
  have hA : ∀ q : Nat, s.heap.size ≤ q → lA s q := fun _ h => h
  refine lv_aload_n hx hb dl_587 rfl (lv_at hl 1 rfl) ?_
  refine law_arg hL hl hS hin.1 dl_588 dl_589 dl_591 kci_1 dl_592 dl_593 ?_
  refine law_arg hL hl hS hin.2.1 dl_594 dl_595 dl_597 kci_2 dl_598 dl_599 ?_
  refine law_arg hL hl hS hin.2.2.1 dl_600 dl_601 dl_603 kci_3 dl_604 dl_605 ?_
  refine gm_callVp (As := [.int (sa xs i 1), .int (sa xs i 2), .int (sa xs i 3)]) (rest := []) (st1 := fun _ => [.int r]) (ws' := fun x => w1 x ++ (po ++ (Mo_c g am sm ++ Lout g d dv))) hE hl.1 ml_L_67 hM hZ hP hD hS hA [] (po ++ (Mo_c g am sm ++ Lout g d dv)) rfl (fun _ => rfl) okX8 he rfl rfl (fun _ => rfl) hrc hrR hcs (Nat.le_of_ble_eq_true rfl) dl_606 (fun x H locs hP hD hS => ?_)
  refine lv_aload_n hx hb dl_609 rfl (lv_at hl 2 rfl) ?_
  refine law_arg hL hl hS hin.1 dl_610 dl_611 dl_613 kci_1 dl_614 dl_615 ?_
  refine law_arg hL hl hS hin.2.1 dl_616 dl_617 dl_619 kci_2 dl_620 dl_621 ?_
  refine law_arg hL hl hS hin.2.2.1 dl_622 dl_623 dl_625 kci_3 dl_626 dl_627 ?_
  refine gm_callVp (As := [.int (sa xs i 1), .int (sa xs i 2), .int (sa xs i 3)]) (rest := [.int r]) (st1 := fun _ => [.int r, .int r]) (ws' := fun _ : Unit => w1 x ++ (po ++ (Mo_c g am sm' ++ Lout g d dv))) hE hl.1 ml_L_70 (c_X9_sent l g am sm (sa xs i 1) (sa xs i 2) (sa xs i 3) (r, sm') hf) hZ hP hD hS hA (w1 x ++ po) (Lout g d dv) (List.append_assoc _ _ _).symm (fun _ => List.append_assoc _ _ _) okX9 rfl rfl rfl (fun _ => rfl) ⟨rfl, rfl⟩ ⟨Nat.le_of_ble_eq_true rfl, Nat.le_of_ble_eq_true rfl⟩ hcs (Nat.le_of_ble_eq_true rfl) dl_628 (fun _ H locs hP hD hS => ?_)
  exact lv_icmp_eq hx hb dl_631 (tgt := 1571) rfl (fun _ => next x H locs hP hD hS) (fun h => absurd rfl h)
set_option maxHeartbeats 1000000 in
theorem lo_join {X : Type} {rmC : Room} {w0 po : va_W} {w1 : X → va_W} {fs : List Value} {r : Int32} {mc ms : Nat} {sm sm' : MoT} {dv : Nat → Int64} (hL : LE p c meth s m g b L xs) (hl : LV ls b ax (am 0) d i) (hin : LI i L)
    (hM : gM l yX8_join cX8_join 4 (some .int) rmC g [.ref ax, .int (sa xs i 1), .int (sa xs i 2), .int (sa xs i 3)] w0 (fun _ => some (.int r)) w1 mc ms) (hrc : rmC.cells = mc ∧ rmC.slots = ms) (hrR : rmC.frames + 1 ≤ 14 ∧ 8 + (4 + 11) + rmC.locals ≤ 530) (he : w0[0]? = some (ax, .inr (9, fs)))
    (hf : f_X9_join sm (sa xs i 1) (sa xs i 2) (sa xs i 3) = some (r, sm')) (hcs : cells + mc ≤ 601024 ∧ slots + ms ≤ 7293034)
    (hP : gP g (w0 ++ (po ++ (Mo_c g am sm ++ Lout g d dv))) H) (hD : va_D (lA s) (w0 ++ (po ++ (Mo_c g am sm ++ Lout g d dv)))) (hS : va_S (lA s) s.heap H locs)
    (next : ∀ (x : X) (H1 : Heap) (locs1 : List Loc), gP g (w1 x ++ (po ++ (Mo_c g am sm' ++ Lout g d dv))) H1 → va_D (lA s) (w1 x ++ (po ++ (Mo_c g am sm' ++ Lout g d dv))) → va_S (lA s) s.heap H1 locs1 → W p l e room_1 s m #[Value.ref b] below meth c H1 locs1 (cells + mc) (slots + ms) Q (F0 m 1571 ls [])) :
    W p l e room_1 s m #[Value.ref b] below meth c H locs cells slots Q (F0 m 636 ls []) := by
  have hE := hL.1
  have hx := hE.1
  have hb := hE.2.1
  have hZ := hL.2.2.2.1
  have hA : ∀ q : Nat, s.heap.size ≤ q → lA s q := fun _ h => h
  refine lv_aload_n hx hb dl_636 rfl (lv_at hl 1 rfl) ?_
  refine law_arg hL hl hS hin.1 dl_637 dl_638 dl_640 kci_1 dl_641 dl_642 ?_
  refine law_arg hL hl hS hin.2.1 dl_643 dl_644 dl_646 kci_2 dl_647 dl_648 ?_
  refine law_arg hL hl hS hin.2.2.1 dl_649 dl_650 dl_652 kci_3 dl_653 dl_654 ?_
  refine gm_callVp (As := [.int (sa xs i 1), .int (sa xs i 2), .int (sa xs i 3)]) (rest := []) (st1 := fun _ => [.int r]) (ws' := fun x => w1 x ++ (po ++ (Mo_c g am sm ++ Lout g d dv))) hE hl.1 ml_L_71 hM hZ hP hD hS hA [] (po ++ (Mo_c g am sm ++ Lout g d dv)) rfl (fun _ => rfl) okX8 he rfl rfl (fun _ => rfl) hrc hrR hcs (Nat.le_of_ble_eq_true rfl) dl_655 (fun x H locs hP hD hS => ?_)
  refine lv_aload_n hx hb dl_658 rfl (lv_at hl 2 rfl) ?_
  refine law_arg hL hl hS hin.1 dl_659 dl_660 dl_662 kci_1 dl_663 dl_664 ?_
  refine law_arg hL hl hS hin.2.1 dl_665 dl_666 dl_668 kci_2 dl_669 dl_670 ?_
  refine law_arg hL hl hS hin.2.2.1 dl_671 dl_672 dl_674 kci_3 dl_675 dl_676 ?_
  refine gm_callVp (As := [.int (sa xs i 1), .int (sa xs i 2), .int (sa xs i 3)]) (rest := [.int r]) (st1 := fun _ => [.int r, .int r]) (ws' := fun _ : Unit => w1 x ++ (po ++ (Mo_c g am sm' ++ Lout g d dv))) hE hl.1 ml_L_74 (c_X9_join l g am sm (sa xs i 1) (sa xs i 2) (sa xs i 3) (r, sm') hf) hZ hP hD hS hA (w1 x ++ po) (Lout g d dv) (List.append_assoc _ _ _).symm (fun _ => List.append_assoc _ _ _) okX9 rfl rfl rfl (fun _ => rfl) ⟨rfl, rfl⟩ ⟨Nat.le_of_ble_eq_true rfl, Nat.le_of_ble_eq_true rfl⟩ hcs (Nat.le_of_ble_eq_true rfl) dl_677 (fun _ H locs hP hD hS => ?_)
  exact lv_icmp_eq hx hb dl_680 (tgt := 1571) rfl (fun _ => next x H locs hP hD hS) (fun h => absurd rfl h)
set_option maxHeartbeats 1000000 in
theorem lo_closed {X : Type} {rmC : Room} {w0 po : va_W} {w1 : X → va_W} {fs : List Value} {r : Int32} {mc ms : Nat} {sm sm' : MoT} {dv : Nat → Int64} (hL : LE p c meth s m g b L xs) (hl : LV ls b ax (am 0) d i) (hin : LI i L)
    (hM : gM l yX8_closed cX8_closed 5 (some .int) rmC g [.ref ax, .int (sa xs i 1), .int (sa xs i 2), .int (sa xs i 3)] w0 (fun _ => some (.int r)) w1 mc ms) (hrc : rmC.cells = mc ∧ rmC.slots = ms) (hrR : rmC.frames + 1 ≤ 14 ∧ 8 + (5 + 11) + rmC.locals ≤ 530) (he : w0[0]? = some (ax, .inr (9, fs)))
    (hf : f_X9_closed sm (sa xs i 1) (sa xs i 2) (sa xs i 3) = some (r, sm')) (hcs : cells + mc ≤ 601024 ∧ slots + ms ≤ 7293034)
    (hP : gP g (w0 ++ (po ++ (Mo_c g am sm ++ Lout g d dv))) H) (hD : va_D (lA s) (w0 ++ (po ++ (Mo_c g am sm ++ Lout g d dv)))) (hS : va_S (lA s) s.heap H locs)
    (next : ∀ (x : X) (H1 : Heap) (locs1 : List Loc), gP g (w1 x ++ (po ++ (Mo_c g am sm' ++ Lout g d dv))) H1 → va_D (lA s) (w1 x ++ (po ++ (Mo_c g am sm' ++ Lout g d dv))) → va_S (lA s) s.heap H1 locs1 → W p l e room_1 s m #[Value.ref b] below meth c H1 locs1 (cells + mc) (slots + ms) Q (F0 m 1571 ls [])) :
    W p l e room_1 s m #[Value.ref b] below meth c H locs cells slots Q (F0 m 685 ls []) := by
  have hE := hL.1
  have hx := hE.1
  have hb := hE.2.1
  have hZ := hL.2.2.2.1
  have hA : ∀ q : Nat, s.heap.size ≤ q → lA s q := fun _ h => h
  refine lv_aload_n hx hb dl_685 rfl (lv_at hl 1 rfl) ?_
  refine law_arg hL hl hS hin.1 dl_686 dl_687 dl_689 kci_1 dl_690 dl_691 ?_
  refine law_arg hL hl hS hin.2.1 dl_692 dl_693 dl_695 kci_2 dl_696 dl_697 ?_
  refine law_arg hL hl hS hin.2.2.1 dl_698 dl_699 dl_701 kci_3 dl_702 dl_703 ?_
  refine gm_callVp (As := [.int (sa xs i 1), .int (sa xs i 2), .int (sa xs i 3)]) (rest := []) (st1 := fun _ => [.int r]) (ws' := fun x => w1 x ++ (po ++ (Mo_c g am sm ++ Lout g d dv))) hE hl.1 ml_L_75 hM hZ hP hD hS hA [] (po ++ (Mo_c g am sm ++ Lout g d dv)) rfl (fun _ => rfl) okX8 he rfl rfl (fun _ => rfl) hrc hrR hcs (Nat.le_of_ble_eq_true rfl) dl_704 (fun x H locs hP hD hS => ?_)
  refine lv_aload_n hx hb dl_707 rfl (lv_at hl 2 rfl) ?_
  refine law_arg hL hl hS hin.1 dl_708 dl_709 dl_711 kci_1 dl_712 dl_713 ?_
  refine law_arg hL hl hS hin.2.1 dl_714 dl_715 dl_717 kci_2 dl_718 dl_719 ?_
  refine law_arg hL hl hS hin.2.2.1 dl_720 dl_721 dl_723 kci_3 dl_724 dl_725 ?_
  refine gm_callVp (As := [.int (sa xs i 1), .int (sa xs i 2), .int (sa xs i 3)]) (rest := [.int r]) (st1 := fun _ => [.int r, .int r]) (ws' := fun _ : Unit => w1 x ++ (po ++ (Mo_c g am sm' ++ Lout g d dv))) hE hl.1 ml_L_78 (c_X9_closed l g am sm (sa xs i 1) (sa xs i 2) (sa xs i 3) (r, sm') hf) hZ hP hD hS hA (w1 x ++ po) (Lout g d dv) (List.append_assoc _ _ _).symm (fun _ => List.append_assoc _ _ _) okX9 rfl rfl rfl (fun _ => rfl) ⟨rfl, rfl⟩ ⟨Nat.le_of_ble_eq_true rfl, Nat.le_of_ble_eq_true rfl⟩ hcs (Nat.le_of_ble_eq_true rfl) dl_726 (fun _ H locs hP hD hS => ?_)
  exact lv_icmp_eq hx hb dl_729 (tgt := 1571) rfl (fun _ => next x H locs hP hD hS) (fun h => absurd rfl h)
set_option maxHeartbeats 1000000 in
theorem lo_rows {X : Type} {rmC : Room} {w0 po : va_W} {w1 : X → va_W} {fs : List Value} {r : Int32} {mc ms : Nat} {sm sm' : MoT} {dv : Nat → Int64} (hL : LE p c meth s m g b L xs) (hl : LV ls b ax (am 0) d i) (hin : LI i L)
    (hM : gM l yX8_rows cX8_rows 1 (some .int) rmC g [.ref ax] w0 (fun _ => some (.int r)) w1 mc ms) (hrc : rmC.cells = mc ∧ rmC.slots = ms) (hrR : rmC.frames + 1 ≤ 14 ∧ 8 + (1 + 11) + rmC.locals ≤ 530) (he : w0[0]? = some (ax, .inr (9, fs)))
    (hf : f_X9_rows sm = some (r, sm')) (hcs : cells + mc ≤ 601024 ∧ slots + ms ≤ 7293034)
    (hP : gP g (w0 ++ (po ++ (Mo_c g am sm ++ Lout g d dv))) H) (hD : va_D (lA s) (w0 ++ (po ++ (Mo_c g am sm ++ Lout g d dv)))) (hS : va_S (lA s) s.heap H locs)
    (next : ∀ (x : X) (H1 : Heap) (locs1 : List Loc), gP g (w1 x ++ (po ++ (Mo_c g am sm' ++ Lout g d dv))) H1 → va_D (lA s) (w1 x ++ (po ++ (Mo_c g am sm' ++ Lout g d dv))) → va_S (lA s) s.heap H1 locs1 → W p l e room_1 s m #[Value.ref b] below meth c H1 locs1 (cells + mc) (slots + ms) Q (F0 m 1571 ls [])) :
    W p l e room_1 s m #[Value.ref b] below meth c H locs cells slots Q (F0 m 734 ls []) := by
  have hE := hL.1
  have hx := hE.1
  have hb := hE.2.1
  have hZ := hL.2.2.2.1
  have hA : ∀ q : Nat, s.heap.size ≤ q → lA s q := fun _ h => h
  refine lv_aload_n hx hb dl_734 rfl (lv_at hl 1 rfl) ?_
  refine gm_callVp (As := []) (rest := []) (st1 := fun _ => [.int r]) (ws' := fun x => w1 x ++ (po ++ (Mo_c g am sm ++ Lout g d dv))) hE hl.1 ml_L_79 hM hZ hP hD hS hA [] (po ++ (Mo_c g am sm ++ Lout g d dv)) rfl (fun _ => rfl) okX8 he rfl rfl (fun _ => rfl) hrc hrR hcs (Nat.le_of_ble_eq_true rfl) dl_735 (fun x H locs hP hD hS => ?_)
  refine lv_aload_n hx hb dl_738 rfl (lv_at hl 2 rfl) ?_
  refine gm_callVp (As := []) (rest := [.int r]) (st1 := fun _ => [.int r, .int r]) (ws' := fun _ : Unit => w1 x ++ (po ++ (Mo_c g am sm' ++ Lout g d dv))) hE hl.1 ml_L_82 (c_X9_rows l g am sm (r, sm') hf) hZ hP hD hS hA (w1 x ++ po) (Lout g d dv) (List.append_assoc _ _ _).symm (fun _ => List.append_assoc _ _ _) okX9 rfl rfl rfl (fun _ => rfl) ⟨rfl, rfl⟩ ⟨Nat.le_of_ble_eq_true rfl, Nat.le_of_ble_eq_true rfl⟩ hcs (Nat.le_of_ble_eq_true rfl) dl_739 (fun _ H locs hP hD hS => ?_)
  exact lv_icmp_eq hx hb dl_742 (tgt := 1571) rfl (fun _ => next x H locs hP hD hS) (fun h => absurd rfl h)
set_option maxHeartbeats 1000000 in
theorem lo_row {X : Type} {rmC : Room} {w0 po : va_W} {w1 : X → va_W} {fs : List Value} {r : Int32} {mc ms : Nat} {sm sm' : MoT} {dv : Nat → Int64} (hL : LE p c meth s m g b L xs) (hl : LV ls b ax (am 0) d i) (hin : LI i L)
    (hM : gM l yX8_row cX8_row 4 (some .int) rmC g [.ref ax, .int (sa xs i 1), .int (sa xs i 2)] w0 (fun _ => some (.int r)) w1 mc ms) (hrc : rmC.cells = mc ∧ rmC.slots = ms) (hrR : rmC.frames + 1 ≤ 14 ∧ 8 + (4 + 11) + rmC.locals ≤ 530) (he : w0[0]? = some (ax, .inr (9, fs)))
    (hf : f_X9_row sm (sa xs i 1) (sa xs i 2) = some (r, sm')) (hcs : cells + mc ≤ 601024 ∧ slots + ms ≤ 7293034)
    (hP : gP g (w0 ++ (po ++ (Mo_c g am sm ++ Lout g d dv))) H) (hD : va_D (lA s) (w0 ++ (po ++ (Mo_c g am sm ++ Lout g d dv)))) (hS : va_S (lA s) s.heap H locs)
    (next : ∀ (x : X) (H1 : Heap) (locs1 : List Loc), gP g (w1 x ++ (po ++ (Mo_c g am sm' ++ Lout g d dv))) H1 → va_D (lA s) (w1 x ++ (po ++ (Mo_c g am sm' ++ Lout g d dv))) → va_S (lA s) s.heap H1 locs1 → W p l e room_1 s m #[Value.ref b] below meth c H1 locs1 (cells + mc) (slots + ms) Q (F0 m 1571 ls [])) :
    W p l e room_1 s m #[Value.ref b] below meth c H locs cells slots Q (F0 m 747 ls []) := by
  have hE := hL.1
  have hx := hE.1
  have hb := hE.2.1
  have hZ := hL.2.2.2.1
  have hA : ∀ q : Nat, s.heap.size ≤ q → lA s q := fun _ h => h
  refine lv_aload_n hx hb dl_747 rfl (lv_at hl 1 rfl) ?_
  refine law_arg hL hl hS hin.1 dl_748 dl_749 dl_751 kci_1 dl_752 dl_753 ?_
  refine law_arg hL hl hS hin.2.1 dl_754 dl_755 dl_757 kci_2 dl_758 dl_759 ?_
  refine gm_callVp (As := [.int (sa xs i 1), .int (sa xs i 2)]) (rest := []) (st1 := fun _ => [.int r]) (ws' := fun x => w1 x ++ (po ++ (Mo_c g am sm ++ Lout g d dv))) hE hl.1 ml_L_83 hM hZ hP hD hS hA [] (po ++ (Mo_c g am sm ++ Lout g d dv)) rfl (fun _ => rfl) okX8 he rfl rfl (fun _ => rfl) hrc hrR hcs (Nat.le_of_ble_eq_true rfl) dl_760 (fun x H locs hP hD hS => ?_)
  refine lv_aload_n hx hb dl_763 rfl (lv_at hl 2 rfl) ?_
  refine law_arg hL hl hS hin.1 dl_764 dl_765 dl_767 kci_1 dl_768 dl_769 ?_
  refine law_arg hL hl hS hin.2.1 dl_770 dl_771 dl_773 kci_2 dl_774 dl_775 ?_
  refine gm_callVp (As := [.int (sa xs i 1), .int (sa xs i 2)]) (rest := [.int r]) (st1 := fun _ => [.int r, .int r]) (ws' := fun _ : Unit => w1 x ++ (po ++ (Mo_c g am sm' ++ Lout g d dv))) hE hl.1 ml_L_86 (c_X9_row l g am sm (sa xs i 1) (sa xs i 2) (r, sm') hf) hZ hP hD hS hA (w1 x ++ po) (Lout g d dv) (List.append_assoc _ _ _).symm (fun _ => List.append_assoc _ _ _) okX9 rfl rfl rfl (fun _ => rfl) ⟨rfl, rfl⟩ ⟨Nat.le_of_ble_eq_true rfl, Nat.le_of_ble_eq_true rfl⟩ hcs (Nat.le_of_ble_eq_true rfl) dl_776 (fun _ H locs hP hD hS => ?_)
  exact lv_icmp_eq hx hb dl_779 (tgt := 1571) rfl (fun _ => next x H locs hP hD hS) (fun h => absurd rfl h)
set_option maxHeartbeats 1000000 in
theorem lo_spell {X : Type} {rmC : Room} {w0 po : va_W} {w1 : X → va_W} {fs : List Value} {r : Int32} {mc ms : Nat} {sm sm' : MoT} {dv : Nat → Int64} (hL : LE p c meth s m g b L xs) (hl : LV ls b ax (am 0) d i) (hin : LI i L)
    (hM : gM l yX8_spell cX8_spell 5 (some .int) rmC g [.ref ax, .int (sa xs i 1), .int (sa xs i 2)] w0 (fun _ => some (.int r)) w1 mc ms) (hrc : rmC.cells = mc ∧ rmC.slots = ms) (hrR : rmC.frames + 1 ≤ 14 ∧ 8 + (5 + 11) + rmC.locals ≤ 530) (he : w0[0]? = some (ax, .inr (9, fs)))
    (hf : f_X9_spell sm (sa xs i 1) (sa xs i 2) = some (r, sm')) (hcs : cells + mc ≤ 601024 ∧ slots + ms ≤ 7293034)
    (hP : gP g (w0 ++ (po ++ (Mo_c g am sm ++ Lout g d dv))) H) (hD : va_D (lA s) (w0 ++ (po ++ (Mo_c g am sm ++ Lout g d dv)))) (hS : va_S (lA s) s.heap H locs)
    (next : ∀ (x : X) (H1 : Heap) (locs1 : List Loc), gP g (w1 x ++ (po ++ (Mo_c g am sm' ++ Lout g d dv))) H1 → va_D (lA s) (w1 x ++ (po ++ (Mo_c g am sm' ++ Lout g d dv))) → va_S (lA s) s.heap H1 locs1 → W p l e room_1 s m #[Value.ref b] below meth c H1 locs1 (cells + mc) (slots + ms) Q (F0 m 1571 ls [])) :
    W p l e room_1 s m #[Value.ref b] below meth c H locs cells slots Q (F0 m 784 ls []) := by
  have hE := hL.1
  have hx := hE.1
  have hb := hE.2.1
  have hZ := hL.2.2.2.1
  have hA : ∀ q : Nat, s.heap.size ≤ q → lA s q := fun _ h => h
  refine lv_aload_n hx hb dl_784 rfl (lv_at hl 1 rfl) ?_
  refine law_arg hL hl hS hin.1 dl_785 dl_786 dl_788 kci_1 dl_789 dl_790 ?_
  refine law_arg hL hl hS hin.2.1 dl_791 dl_792 dl_794 kci_2 dl_795 dl_796 ?_
  refine gm_callVp (As := [.int (sa xs i 1), .int (sa xs i 2)]) (rest := []) (st1 := fun _ => [.int r]) (ws' := fun x => w1 x ++ (po ++ (Mo_c g am sm ++ Lout g d dv))) hE hl.1 ml_L_87 hM hZ hP hD hS hA [] (po ++ (Mo_c g am sm ++ Lout g d dv)) rfl (fun _ => rfl) okX8 he rfl rfl (fun _ => rfl) hrc hrR hcs (Nat.le_of_ble_eq_true rfl) dl_797 (fun x H locs hP hD hS => ?_)
  refine lv_aload_n hx hb dl_800 rfl (lv_at hl 2 rfl) ?_
  refine law_arg hL hl hS hin.1 dl_801 dl_802 dl_804 kci_1 dl_805 dl_806 ?_
  refine law_arg hL hl hS hin.2.1 dl_807 dl_808 dl_810 kci_2 dl_811 dl_812 ?_
  refine gm_callVp (As := [.int (sa xs i 1), .int (sa xs i 2)]) (rest := [.int r]) (st1 := fun _ => [.int r, .int r]) (ws' := fun _ : Unit => w1 x ++ (po ++ (Mo_c g am sm' ++ Lout g d dv))) hE hl.1 ml_L_90 (c_X9_spell l g am sm (sa xs i 1) (sa xs i 2) (r, sm') hf) hZ hP hD hS hA (w1 x ++ po) (Lout g d dv) (List.append_assoc _ _ _).symm (fun _ => List.append_assoc _ _ _) okX9 rfl rfl rfl (fun _ => rfl) ⟨rfl, rfl⟩ ⟨Nat.le_of_ble_eq_true rfl, Nat.le_of_ble_eq_true rfl⟩ hcs (Nat.le_of_ble_eq_true rfl) dl_813 (fun _ H locs hP hD hS => ?_)
  exact lv_icmp_eq hx hb dl_816 (tgt := 1571) rfl (fun _ => next x H locs hP hD hS) (fun h => absurd rfl h)
set_option maxHeartbeats 1000000 in
theorem lo_traffic {X : Type} {rmC : Room} {w0 po : va_W} {w1 : X → va_W} {fs : List Value} {r : Int32} {mc ms : Nat} {sm sm' : MoT} {dv : Nat → Int64} (hL : LE p c meth s m g b L xs) (hl : LV ls b ax (am 0) d i) (hin : LI i L)
    (hM : gM l yX8_traffic cX8_traffic 2 (some .int) rmC g [.ref ax, .int (sa xs i 1)] w0 (fun _ => some (.int r)) w1 mc ms) (hrc : rmC.cells = mc ∧ rmC.slots = ms) (hrR : rmC.frames + 1 ≤ 14 ∧ 8 + (2 + 11) + rmC.locals ≤ 530) (he : w0[0]? = some (ax, .inr (9, fs)))
    (hf : f_X9_traffic sm (sa xs i 1) = some (r, sm')) (hcs : cells + mc ≤ 601024 ∧ slots + ms ≤ 7293034)
    (hP : gP g (w0 ++ (po ++ (Mo_c g am sm ++ Lout g d dv))) H) (hD : va_D (lA s) (w0 ++ (po ++ (Mo_c g am sm ++ Lout g d dv)))) (hS : va_S (lA s) s.heap H locs)
    (next : ∀ (x : X) (H1 : Heap) (locs1 : List Loc), gP g (w1 x ++ (po ++ (Mo_c g am sm' ++ Lout g d dv))) H1 → va_D (lA s) (w1 x ++ (po ++ (Mo_c g am sm' ++ Lout g d dv))) → va_S (lA s) s.heap H1 locs1 → W p l e room_1 s m #[Value.ref b] below meth c H1 locs1 (cells + mc) (slots + ms) Q (F0 m 1571 ls [])) :
    W p l e room_1 s m #[Value.ref b] below meth c H locs cells slots Q (F0 m 821 ls []) := by
  have hE := hL.1
  have hx := hE.1
  have hb := hE.2.1
  have hZ := hL.2.2.2.1
  have hA : ∀ q : Nat, s.heap.size ≤ q → lA s q := fun _ h => h
  refine lv_aload_n hx hb dl_821 rfl (lv_at hl 1 rfl) ?_
  refine law_arg hL hl hS hin.1 dl_822 dl_823 dl_825 kci_1 dl_826 dl_827 ?_
  refine gm_callVp (As := [.int (sa xs i 1)]) (rest := []) (st1 := fun _ => [.int r]) (ws' := fun x => w1 x ++ (po ++ (Mo_c g am sm ++ Lout g d dv))) hE hl.1 ml_L_91 hM hZ hP hD hS hA [] (po ++ (Mo_c g am sm ++ Lout g d dv)) rfl (fun _ => rfl) okX8 he rfl rfl (fun _ => rfl) hrc hrR hcs (Nat.le_of_ble_eq_true rfl) dl_828 (fun x H locs hP hD hS => ?_)
  refine lv_aload_n hx hb dl_831 rfl (lv_at hl 2 rfl) ?_
  refine law_arg hL hl hS hin.1 dl_832 dl_833 dl_835 kci_1 dl_836 dl_837 ?_
  refine gm_callVp (As := [.int (sa xs i 1)]) (rest := [.int r]) (st1 := fun _ => [.int r, .int r]) (ws' := fun _ : Unit => w1 x ++ (po ++ (Mo_c g am sm' ++ Lout g d dv))) hE hl.1 ml_L_94 (c_X9_traffic l g am sm (sa xs i 1) (r, sm') hf) hZ hP hD hS hA (w1 x ++ po) (Lout g d dv) (List.append_assoc _ _ _).symm (fun _ => List.append_assoc _ _ _) okX9 rfl rfl rfl (fun _ => rfl) ⟨rfl, rfl⟩ ⟨Nat.le_of_ble_eq_true rfl, Nat.le_of_ble_eq_true rfl⟩ hcs (Nat.le_of_ble_eq_true rfl) dl_838 (fun _ H locs hP hD hS => ?_)
  exact lv_icmp_eq hx hb dl_841 (tgt := 1571) rfl (fun _ => next x H locs hP hD hS) (fun h => absurd rfl h)
set_option maxHeartbeats 1000000 in
theorem lo_log {X : Type} {rmC : Room} {w0 po : va_W} {w1 : X → va_W} {fs : List Value} {r : Int32} {mc ms : Nat} {sm sm' : MoT} {dv : Nat → Int64} (hL : LE p c meth s m g b L xs) (hl : LV ls b ax (am 0) d i) (hin : LI i L)
    (hM : gM l yX8_log cX8_log 3 (some .int) rmC g [.ref ax, .int (sa xs i 1), .int (sa xs i 2)] w0 (fun _ => some (.int r)) w1 mc ms) (hrc : rmC.cells = mc ∧ rmC.slots = ms) (hrR : rmC.frames + 1 ≤ 14 ∧ 8 + (3 + 11) + rmC.locals ≤ 530) (he : w0[0]? = some (ax, .inr (9, fs)))
    (hf : f_X9_log sm (sa xs i 1) (sa xs i 2) = some (r, sm')) (hcs : cells + mc ≤ 601024 ∧ slots + ms ≤ 7293034)
    (hP : gP g (w0 ++ (po ++ (Mo_c g am sm ++ Lout g d dv))) H) (hD : va_D (lA s) (w0 ++ (po ++ (Mo_c g am sm ++ Lout g d dv)))) (hS : va_S (lA s) s.heap H locs)
    (next : ∀ (x : X) (H1 : Heap) (locs1 : List Loc), gP g (w1 x ++ (po ++ (Mo_c g am sm' ++ Lout g d dv))) H1 → va_D (lA s) (w1 x ++ (po ++ (Mo_c g am sm' ++ Lout g d dv))) → va_S (lA s) s.heap H1 locs1 → W p l e room_1 s m #[Value.ref b] below meth c H1 locs1 (cells + mc) (slots + ms) Q (F0 m 1571 ls [])) :
    W p l e room_1 s m #[Value.ref b] below meth c H locs cells slots Q (F0 m 846 ls []) := by
  have hE := hL.1
  have hx := hE.1
  have hb := hE.2.1
  have hZ := hL.2.2.2.1
  have hA : ∀ q : Nat, s.heap.size ≤ q → lA s q := fun _ h => h
  refine lv_aload_n hx hb dl_846 rfl (lv_at hl 1 rfl) ?_
  refine law_arg hL hl hS hin.1 dl_847 dl_848 dl_850 kci_1 dl_851 dl_852 ?_
  refine law_arg hL hl hS hin.2.1 dl_853 dl_854 dl_856 kci_2 dl_857 dl_858 ?_
  refine gm_callVp (As := [.int (sa xs i 1), .int (sa xs i 2)]) (rest := []) (st1 := fun _ => [.int r]) (ws' := fun x => w1 x ++ (po ++ (Mo_c g am sm ++ Lout g d dv))) hE hl.1 ml_L_95 hM hZ hP hD hS hA [] (po ++ (Mo_c g am sm ++ Lout g d dv)) rfl (fun _ => rfl) okX8 he rfl rfl (fun _ => rfl) hrc hrR hcs (Nat.le_of_ble_eq_true rfl) dl_859 (fun x H locs hP hD hS => ?_)
  refine lv_aload_n hx hb dl_862 rfl (lv_at hl 2 rfl) ?_
  refine law_arg hL hl hS hin.1 dl_863 dl_864 dl_866 kci_1 dl_867 dl_868 ?_
  refine law_arg hL hl hS hin.2.1 dl_869 dl_870 dl_872 kci_2 dl_873 dl_874 ?_
  refine gm_callVp (As := [.int (sa xs i 1), .int (sa xs i 2)]) (rest := [.int r]) (st1 := fun _ => [.int r, .int r]) (ws' := fun _ : Unit => w1 x ++ (po ++ (Mo_c g am sm' ++ Lout g d dv))) hE hl.1 ml_L_98 (c_X9_log l g am sm (sa xs i 1) (sa xs i 2) (r, sm') hf) hZ hP hD hS hA (w1 x ++ po) (Lout g d dv) (List.append_assoc _ _ _).symm (fun _ => List.append_assoc _ _ _) okX9 rfl rfl rfl (fun _ => rfl) ⟨rfl, rfl⟩ ⟨Nat.le_of_ble_eq_true rfl, Nat.le_of_ble_eq_true rfl⟩ hcs (Nat.le_of_ble_eq_true rfl) dl_875 (fun _ H locs hP hD hS => ?_)
  exact lv_icmp_eq hx hb dl_878 (tgt := 1571) rfl (fun _ => next x H locs hP hD hS) (fun h => absurd rfl h)
set_option maxHeartbeats 1000000 in
theorem lo_flips {X : Type} {rmC : Room} {w0 po : va_W} {w1 : X → va_W} {fs : List Value} {r : Int32} {mc ms : Nat} {sm sm' : MoT} {dv : Nat → Int64} (hL : LE p c meth s m g b L xs) (hl : LV ls b ax (am 0) d i) (hin : LI i L)
    (hM : gM l yX8_flips cX8_flips 3 (some .int) rmC g [.ref ax, .int (sa xs i 1), .int (sa xs i 2)] w0 (fun _ => some (.int r)) w1 mc ms) (hrc : rmC.cells = mc ∧ rmC.slots = ms) (hrR : rmC.frames + 1 ≤ 14 ∧ 8 + (3 + 11) + rmC.locals ≤ 530) (he : w0[0]? = some (ax, .inr (9, fs)))
    (hf : f_X9_flips sm (sa xs i 1) (sa xs i 2) = some (r, sm')) (hcs : cells + mc ≤ 601024 ∧ slots + ms ≤ 7293034)
    (hP : gP g (w0 ++ (po ++ (Mo_c g am sm ++ Lout g d dv))) H) (hD : va_D (lA s) (w0 ++ (po ++ (Mo_c g am sm ++ Lout g d dv)))) (hS : va_S (lA s) s.heap H locs)
    (next : ∀ (x : X) (H1 : Heap) (locs1 : List Loc), gP g (w1 x ++ (po ++ (Mo_c g am sm' ++ Lout g d dv))) H1 → va_D (lA s) (w1 x ++ (po ++ (Mo_c g am sm' ++ Lout g d dv))) → va_S (lA s) s.heap H1 locs1 → W p l e room_1 s m #[Value.ref b] below meth c H1 locs1 (cells + mc) (slots + ms) Q (F0 m 1571 ls [])) :
    W p l e room_1 s m #[Value.ref b] below meth c H locs cells slots Q (F0 m 883 ls []) := by
  have hE := hL.1
  have hx := hE.1
  have hb := hE.2.1
  have hZ := hL.2.2.2.1
  have hA : ∀ q : Nat, s.heap.size ≤ q → lA s q := fun _ h => h
  refine lv_aload_n hx hb dl_883 rfl (lv_at hl 1 rfl) ?_
  refine law_arg hL hl hS hin.1 dl_884 dl_885 dl_887 kci_1 dl_888 dl_889 ?_
  refine law_arg hL hl hS hin.2.1 dl_890 dl_891 dl_893 kci_2 dl_894 dl_895 ?_
  refine gm_callVp (As := [.int (sa xs i 1), .int (sa xs i 2)]) (rest := []) (st1 := fun _ => [.int r]) (ws' := fun x => w1 x ++ (po ++ (Mo_c g am sm ++ Lout g d dv))) hE hl.1 ml_L_99 hM hZ hP hD hS hA [] (po ++ (Mo_c g am sm ++ Lout g d dv)) rfl (fun _ => rfl) okX8 he rfl rfl (fun _ => rfl) hrc hrR hcs (Nat.le_of_ble_eq_true rfl) dl_896 (fun x H locs hP hD hS => ?_)
  refine lv_aload_n hx hb dl_899 rfl (lv_at hl 2 rfl) ?_
  refine law_arg hL hl hS hin.1 dl_900 dl_901 dl_903 kci_1 dl_904 dl_905 ?_
  refine law_arg hL hl hS hin.2.1 dl_906 dl_907 dl_909 kci_2 dl_910 dl_911 ?_
  refine gm_callVp (As := [.int (sa xs i 1), .int (sa xs i 2)]) (rest := [.int r]) (st1 := fun _ => [.int r, .int r]) (ws' := fun _ : Unit => w1 x ++ (po ++ (Mo_c g am sm' ++ Lout g d dv))) hE hl.1 ml_L_102 (c_X9_flips l g am sm (sa xs i 1) (sa xs i 2) (r, sm') hf) hZ hP hD hS hA (w1 x ++ po) (Lout g d dv) (List.append_assoc _ _ _).symm (fun _ => List.append_assoc _ _ _) okX9 rfl rfl rfl (fun _ => rfl) ⟨rfl, rfl⟩ ⟨Nat.le_of_ble_eq_true rfl, Nat.le_of_ble_eq_true rfl⟩ hcs (Nat.le_of_ble_eq_true rfl) dl_912 (fun _ H locs hP hD hS => ?_)
  exact lv_icmp_eq hx hb dl_915 (tgt := 1571) rfl (fun _ => next x H locs hP hD hS) (fun h => absurd rfl h)
set_option maxHeartbeats 1000000 in
theorem lo_busiest {X : Type} {rmC : Room} {w0 po : va_W} {w1 : X → va_W} {fs : List Value} {r : Int32} {mc ms : Nat} {sm sm' : MoT} {dv : Nat → Int64} (hL : LE p c meth s m g b L xs) (hl : LV ls b ax (am 0) d i) (hin : LI i L)
    (hM : gM l yX8_busiest cX8_busiest 1 (some .int) rmC g [.ref ax] w0 (fun _ => some (.int r)) w1 mc ms) (hrc : rmC.cells = mc ∧ rmC.slots = ms) (hrR : rmC.frames + 1 ≤ 14 ∧ 8 + (1 + 11) + rmC.locals ≤ 530) (he : w0[0]? = some (ax, .inr (9, fs)))
    (hf : f_X9_busiest sm = some (r, sm')) (hcs : cells + mc ≤ 601024 ∧ slots + ms ≤ 7293034)
    (hP : gP g (w0 ++ (po ++ (Mo_c g am sm ++ Lout g d dv))) H) (hD : va_D (lA s) (w0 ++ (po ++ (Mo_c g am sm ++ Lout g d dv)))) (hS : va_S (lA s) s.heap H locs)
    (next : ∀ (x : X) (H1 : Heap) (locs1 : List Loc), gP g (w1 x ++ (po ++ (Mo_c g am sm' ++ Lout g d dv))) H1 → va_D (lA s) (w1 x ++ (po ++ (Mo_c g am sm' ++ Lout g d dv))) → va_S (lA s) s.heap H1 locs1 → W p l e room_1 s m #[Value.ref b] below meth c H1 locs1 (cells + mc) (slots + ms) Q (F0 m 1571 ls [])) :
    W p l e room_1 s m #[Value.ref b] below meth c H locs cells slots Q (F0 m 920 ls []) := by
  have hE := hL.1
  have hx := hE.1
  have hb := hE.2.1
  have hZ := hL.2.2.2.1
  have hA : ∀ q : Nat, s.heap.size ≤ q → lA s q := fun _ h => h
  refine lv_aload_n hx hb dl_920 rfl (lv_at hl 1 rfl) ?_
  refine gm_callVp (As := []) (rest := []) (st1 := fun _ => [.int r]) (ws' := fun x => w1 x ++ (po ++ (Mo_c g am sm ++ Lout g d dv))) hE hl.1 ml_L_103 hM hZ hP hD hS hA [] (po ++ (Mo_c g am sm ++ Lout g d dv)) rfl (fun _ => rfl) okX8 he rfl rfl (fun _ => rfl) hrc hrR hcs (Nat.le_of_ble_eq_true rfl) dl_921 (fun x H locs hP hD hS => ?_)
  refine lv_aload_n hx hb dl_924 rfl (lv_at hl 2 rfl) ?_
  refine gm_callVp (As := []) (rest := [.int r]) (st1 := fun _ => [.int r, .int r]) (ws' := fun _ : Unit => w1 x ++ (po ++ (Mo_c g am sm' ++ Lout g d dv))) hE hl.1 ml_L_106 (c_X9_busiest l g am sm (r, sm') hf) hZ hP hD hS hA (w1 x ++ po) (Lout g d dv) (List.append_assoc _ _ _).symm (fun _ => List.append_assoc _ _ _) okX9 rfl rfl rfl (fun _ => rfl) ⟨rfl, rfl⟩ ⟨Nat.le_of_ble_eq_true rfl, Nat.le_of_ble_eq_true rfl⟩ hcs (Nat.le_of_ble_eq_true rfl) dl_925 (fun _ H locs hP hD hS => ?_)
  exact lv_icmp_eq hx hb dl_928 (tgt := 1571) rfl (fun _ => next x H locs hP hD hS) (fun h => absurd rfl h)
set_option maxHeartbeats 1000000 in
theorem lo_dearest {X : Type} {rmC : Room} {w0 po : va_W} {w1 : X → va_W} {fs : List Value} {r : Int32} {mc ms : Nat} {sm sm' : MoT} {dv : Nat → Int64} (hL : LE p c meth s m g b L xs) (hl : LV ls b ax (am 0) d i) (hin : LI i L)
    (hM : gM l yX8_dearest cX8_dearest 1 (some .int) rmC g [.ref ax] w0 (fun _ => some (.int r)) w1 mc ms) (hrc : rmC.cells = mc ∧ rmC.slots = ms) (hrR : rmC.frames + 1 ≤ 14 ∧ 8 + (1 + 11) + rmC.locals ≤ 530) (he : w0[0]? = some (ax, .inr (9, fs)))
    (hf : f_X9_dearest sm = some (r, sm')) (hcs : cells + mc ≤ 601024 ∧ slots + ms ≤ 7293034)
    (hP : gP g (w0 ++ (po ++ (Mo_c g am sm ++ Lout g d dv))) H) (hD : va_D (lA s) (w0 ++ (po ++ (Mo_c g am sm ++ Lout g d dv)))) (hS : va_S (lA s) s.heap H locs)
    (next : ∀ (x : X) (H1 : Heap) (locs1 : List Loc), gP g (w1 x ++ (po ++ (Mo_c g am sm' ++ Lout g d dv))) H1 → va_D (lA s) (w1 x ++ (po ++ (Mo_c g am sm' ++ Lout g d dv))) → va_S (lA s) s.heap H1 locs1 → W p l e room_1 s m #[Value.ref b] below meth c H1 locs1 (cells + mc) (slots + ms) Q (F0 m 1571 ls [])) :
    W p l e room_1 s m #[Value.ref b] below meth c H locs cells slots Q (F0 m 933 ls []) := by
  have hE := hL.1
  have hx := hE.1
  have hb := hE.2.1
  have hZ := hL.2.2.2.1
  have hA : ∀ q : Nat, s.heap.size ≤ q → lA s q := fun _ h => h
  refine lv_aload_n hx hb dl_933 rfl (lv_at hl 1 rfl) ?_
  refine gm_callVp (As := []) (rest := []) (st1 := fun _ => [.int r]) (ws' := fun x => w1 x ++ (po ++ (Mo_c g am sm ++ Lout g d dv))) hE hl.1 ml_L_107 hM hZ hP hD hS hA [] (po ++ (Mo_c g am sm ++ Lout g d dv)) rfl (fun _ => rfl) okX8 he rfl rfl (fun _ => rfl) hrc hrR hcs (Nat.le_of_ble_eq_true rfl) dl_934 (fun x H locs hP hD hS => ?_)
  refine lv_aload_n hx hb dl_937 rfl (lv_at hl 2 rfl) ?_
  refine gm_callVp (As := []) (rest := [.int r]) (st1 := fun _ => [.int r, .int r]) (ws' := fun _ : Unit => w1 x ++ (po ++ (Mo_c g am sm' ++ Lout g d dv))) hE hl.1 ml_L_110 (c_X9_dearest l g am sm (r, sm') hf) hZ hP hD hS hA (w1 x ++ po) (Lout g d dv) (List.append_assoc _ _ _).symm (fun _ => List.append_assoc _ _ _) okX9 rfl rfl rfl (fun _ => rfl) ⟨rfl, rfl⟩ ⟨Nat.le_of_ble_eq_true rfl, Nat.le_of_ble_eq_true rfl⟩ hcs (Nat.le_of_ble_eq_true rfl) dl_938 (fun _ H locs hP hD hS => ?_)
  exact lv_icmp_eq hx hb dl_941 (tgt := 1571) rfl (fun _ => next x H locs hP hD hS) (fun h => absurd rfl h)
set_option maxHeartbeats 1000000 in
theorem lo_begin {X : Type} {rmC : Room} {w0 po : va_W} {w1 : X → va_W} {fs : List Value} {r : Int32} {mc ms : Nat} {sm sm' : MoT} {dv : Nat → Int64} (hL : LE p c meth s m g b L xs) (hl : LV ls b ax (am 0) d i) (hin : LI i L)
    (hM : gM l yX8_begin cX8_begin 2 (some .int) rmC g [.ref ax, .int (sa xs i 1)] w0 (fun _ => some (.int r)) w1 mc ms) (hrc : rmC.cells = mc ∧ rmC.slots = ms) (hrR : rmC.frames + 1 ≤ 14 ∧ 8 + (2 + 11) + rmC.locals ≤ 530) (he : w0[0]? = some (ax, .inr (9, fs)))
    (hf : f_X9_begin sm (sa xs i 1) = some (r, sm')) (hcs : cells + mc ≤ 601024 ∧ slots + ms ≤ 7293034)
    (hP : gP g (w0 ++ (po ++ (Mo_c g am sm ++ Lout g d dv))) H) (hD : va_D (lA s) (w0 ++ (po ++ (Mo_c g am sm ++ Lout g d dv)))) (hS : va_S (lA s) s.heap H locs)
    (next : ∀ (x : X) (H1 : Heap) (locs1 : List Loc), gP g (w1 x ++ (po ++ (Mo_c g am sm' ++ Lout g d dv))) H1 → va_D (lA s) (w1 x ++ (po ++ (Mo_c g am sm' ++ Lout g d dv))) → va_S (lA s) s.heap H1 locs1 → W p l e room_1 s m #[Value.ref b] below meth c H1 locs1 (cells + mc) (slots + ms) Q (F0 m 1571 ls [])) :
    W p l e room_1 s m #[Value.ref b] below meth c H locs cells slots Q (F0 m 946 ls []) := by
  have hE := hL.1
  have hx := hE.1
  have hb := hE.2.1
  have hZ := hL.2.2.2.1
  have hA : ∀ q : Nat, s.heap.size ≤ q → lA s q := fun _ h => h
  refine lv_aload_n hx hb dl_946 rfl (lv_at hl 1 rfl) ?_
  refine law_arg hL hl hS hin.1 dl_947 dl_948 dl_950 kci_1 dl_951 dl_952 ?_
  refine gm_callVp (As := [.int (sa xs i 1)]) (rest := []) (st1 := fun _ => [.int r]) (ws' := fun x => w1 x ++ (po ++ (Mo_c g am sm ++ Lout g d dv))) hE hl.1 ml_L_111 hM hZ hP hD hS hA [] (po ++ (Mo_c g am sm ++ Lout g d dv)) rfl (fun _ => rfl) okX8 he rfl rfl (fun _ => rfl) hrc hrR hcs (Nat.le_of_ble_eq_true rfl) dl_953 (fun x H locs hP hD hS => ?_)
  refine lv_aload_n hx hb dl_956 rfl (lv_at hl 2 rfl) ?_
  refine law_arg hL hl hS hin.1 dl_957 dl_958 dl_960 kci_1 dl_961 dl_962 ?_
  refine gm_callVp (As := [.int (sa xs i 1)]) (rest := [.int r]) (st1 := fun _ => [.int r, .int r]) (ws' := fun _ : Unit => w1 x ++ (po ++ (Mo_c g am sm' ++ Lout g d dv))) hE hl.1 ml_L_114 (c_X9_begin l g am sm (sa xs i 1) (r, sm') hf) hZ hP hD hS hA (w1 x ++ po) (Lout g d dv) (List.append_assoc _ _ _).symm (fun _ => List.append_assoc _ _ _) okX9 rfl rfl rfl (fun _ => rfl) ⟨rfl, rfl⟩ ⟨Nat.le_of_ble_eq_true rfl, Nat.le_of_ble_eq_true rfl⟩ hcs (Nat.le_of_ble_eq_true rfl) dl_963 (fun _ H locs hP hD hS => ?_)
  exact lv_icmp_eq hx hb dl_966 (tgt := 1571) rfl (fun _ => next x H locs hP hD hS) (fun h => absurd rfl h)
set_option maxHeartbeats 1000000 in
theorem lo_pull {X : Type} {rmC : Room} {w0 po : va_W} {w1 : X → va_W} {fs : List Value} {r : Int32} {mc ms : Nat} {sm sm' : MoT} {dv : Nat → Int64} (hL : LE p c meth s m g b L xs) (hl : LV ls b ax (am 0) d i) (hin : LI i L)
    (hM : gM l yX8_pull cX8_pull 2 (some .int) rmC g [.ref ax, .int (sa xs i 1)] w0 (fun _ => some (.int r)) w1 mc ms) (hrc : rmC.cells = mc ∧ rmC.slots = ms) (hrR : rmC.frames + 1 ≤ 14 ∧ 8 + (2 + 11) + rmC.locals ≤ 530) (he : w0[0]? = some (ax, .inr (9, fs)))
    (hf : f_X9_pull sm (sa xs i 1) = some (r, sm')) (hcs : cells + mc ≤ 601024 ∧ slots + ms ≤ 7293034)
    (hP : gP g (w0 ++ (po ++ (Mo_c g am sm ++ Lout g d dv))) H) (hD : va_D (lA s) (w0 ++ (po ++ (Mo_c g am sm ++ Lout g d dv)))) (hS : va_S (lA s) s.heap H locs)
    (next : ∀ (x : X) (H1 : Heap) (locs1 : List Loc), gP g (w1 x ++ (po ++ (Mo_c g am sm' ++ Lout g d dv))) H1 → va_D (lA s) (w1 x ++ (po ++ (Mo_c g am sm' ++ Lout g d dv))) → va_S (lA s) s.heap H1 locs1 → W p l e room_1 s m #[Value.ref b] below meth c H1 locs1 (cells + mc) (slots + ms) Q (F0 m 1571 ls [])) :
    W p l e room_1 s m #[Value.ref b] below meth c H locs cells slots Q (F0 m 971 ls []) := by
  have hE := hL.1
  have hx := hE.1
  have hb := hE.2.1
  have hZ := hL.2.2.2.1
  have hA : ∀ q : Nat, s.heap.size ≤ q → lA s q := fun _ h => h
  refine lv_aload_n hx hb dl_971 rfl (lv_at hl 1 rfl) ?_
  refine law_arg hL hl hS hin.1 dl_972 dl_973 dl_975 kci_1 dl_976 dl_977 ?_
  refine gm_callVp (As := [.int (sa xs i 1)]) (rest := []) (st1 := fun _ => [.int r]) (ws' := fun x => w1 x ++ (po ++ (Mo_c g am sm ++ Lout g d dv))) hE hl.1 ml_L_115 hM hZ hP hD hS hA [] (po ++ (Mo_c g am sm ++ Lout g d dv)) rfl (fun _ => rfl) okX8 he rfl rfl (fun _ => rfl) hrc hrR hcs (Nat.le_of_ble_eq_true rfl) dl_978 (fun x H locs hP hD hS => ?_)
  refine lv_aload_n hx hb dl_981 rfl (lv_at hl 2 rfl) ?_
  refine law_arg hL hl hS hin.1 dl_982 dl_983 dl_985 kci_1 dl_986 dl_987 ?_
  refine gm_callVp (As := [.int (sa xs i 1)]) (rest := [.int r]) (st1 := fun _ => [.int r, .int r]) (ws' := fun _ : Unit => w1 x ++ (po ++ (Mo_c g am sm' ++ Lout g d dv))) hE hl.1 ml_L_118 (c_X9_pull l g am sm (sa xs i 1) (r, sm') hf) hZ hP hD hS hA (w1 x ++ po) (Lout g d dv) (List.append_assoc _ _ _).symm (fun _ => List.append_assoc _ _ _) okX9 rfl rfl rfl (fun _ => rfl) ⟨rfl, rfl⟩ ⟨Nat.le_of_ble_eq_true rfl, Nat.le_of_ble_eq_true rfl⟩ hcs (Nat.le_of_ble_eq_true rfl) dl_988 (fun _ H locs hP hD hS => ?_)
  exact lv_icmp_eq hx hb dl_991 (tgt := 1571) rfl (fun _ => next x H locs hP hD hS) (fun h => absurd rfl h)
set_option maxHeartbeats 1000000 in
theorem lo_pulled {X : Type} {rmC : Room} {w0 po : va_W} {w1 : X → va_W} {fs : List Value} {r : Int32} {mc ms : Nat} {sm sm' : MoT} {dv : Nat → Int64} (hL : LE p c meth s m g b L xs) (hl : LV ls b ax (am 0) d i) (hin : LI i L)
    (hM : gM l yX8_pulled cX8_pulled 6 (some .int) rmC g [.ref ax, .int (sa xs i 1), .int (sa xs i 2), .int (sa xs i 3)] w0 (fun _ => some (.int r)) w1 mc ms) (hrc : rmC.cells = mc ∧ rmC.slots = ms) (hrR : rmC.frames + 1 ≤ 14 ∧ 8 + (6 + 11) + rmC.locals ≤ 530) (he : w0[0]? = some (ax, .inr (9, fs)))
    (hf : f_X9_pulled sm (sa xs i 1) (sa xs i 2) (sa xs i 3) = some (r, sm')) (hcs : cells + mc ≤ 601024 ∧ slots + ms ≤ 7293034)
    (hP : gP g (w0 ++ (po ++ (Mo_c g am sm ++ Lout g d dv))) H) (hD : va_D (lA s) (w0 ++ (po ++ (Mo_c g am sm ++ Lout g d dv)))) (hS : va_S (lA s) s.heap H locs)
    (next : ∀ (x : X) (H1 : Heap) (locs1 : List Loc), gP g (w1 x ++ (po ++ (Mo_c g am sm' ++ Lout g d dv))) H1 → va_D (lA s) (w1 x ++ (po ++ (Mo_c g am sm' ++ Lout g d dv))) → va_S (lA s) s.heap H1 locs1 → W p l e room_1 s m #[Value.ref b] below meth c H1 locs1 (cells + mc) (slots + ms) Q (F0 m 1571 ls [])) :
    W p l e room_1 s m #[Value.ref b] below meth c H locs cells slots Q (F0 m 996 ls []) := by
  have hE := hL.1
  have hx := hE.1
  have hb := hE.2.1
  have hZ := hL.2.2.2.1
  have hA : ∀ q : Nat, s.heap.size ≤ q → lA s q := fun _ h => h
  refine lv_aload_n hx hb dl_996 rfl (lv_at hl 1 rfl) ?_
  refine law_arg hL hl hS hin.1 dl_997 dl_998 dl_1000 kci_1 dl_1001 dl_1002 ?_
  refine law_arg hL hl hS hin.2.1 dl_1003 dl_1004 dl_1006 kci_2 dl_1007 dl_1008 ?_
  refine law_arg hL hl hS hin.2.2.1 dl_1009 dl_1010 dl_1012 kci_3 dl_1013 dl_1014 ?_
  refine gm_callVp (As := [.int (sa xs i 1), .int (sa xs i 2), .int (sa xs i 3)]) (rest := []) (st1 := fun _ => [.int r]) (ws' := fun x => w1 x ++ (po ++ (Mo_c g am sm ++ Lout g d dv))) hE hl.1 ml_L_119 hM hZ hP hD hS hA [] (po ++ (Mo_c g am sm ++ Lout g d dv)) rfl (fun _ => rfl) okX8 he rfl rfl (fun _ => rfl) hrc hrR hcs (Nat.le_of_ble_eq_true rfl) dl_1015 (fun x H locs hP hD hS => ?_)
  refine lv_aload_n hx hb dl_1018 rfl (lv_at hl 2 rfl) ?_
  refine law_arg hL hl hS hin.1 dl_1019 dl_1020 dl_1022 kci_1 dl_1023 dl_1024 ?_
  refine law_arg hL hl hS hin.2.1 dl_1025 dl_1026 dl_1028 kci_2 dl_1029 dl_1030 ?_
  refine law_arg hL hl hS hin.2.2.1 dl_1031 dl_1032 dl_1034 kci_3 dl_1035 dl_1036 ?_
  refine gm_callVp (As := [.int (sa xs i 1), .int (sa xs i 2), .int (sa xs i 3)]) (rest := [.int r]) (st1 := fun _ => [.int r, .int r]) (ws' := fun _ : Unit => w1 x ++ (po ++ (Mo_c g am sm' ++ Lout g d dv))) hE hl.1 ml_L_122 (c_X9_pulled l g am sm (sa xs i 1) (sa xs i 2) (sa xs i 3) (r, sm') hf) hZ hP hD hS hA (w1 x ++ po) (Lout g d dv) (List.append_assoc _ _ _).symm (fun _ => List.append_assoc _ _ _) okX9 rfl rfl rfl (fun _ => rfl) ⟨rfl, rfl⟩ ⟨Nat.le_of_ble_eq_true rfl, Nat.le_of_ble_eq_true rfl⟩ hcs (Nat.le_of_ble_eq_true rfl) dl_1037 (fun _ H locs hP hD hS => ?_)
  exact lv_icmp_eq hx hb dl_1040 (tgt := 1571) rfl (fun _ => next x H locs hP hD hS) (fun h => absurd rfl h)
set_option maxHeartbeats 1000000 in
theorem lo_held {X : Type} {rmC : Room} {w0 po : va_W} {w1 : X → va_W} {fs : List Value} {r : Int32} {mc ms : Nat} {sm sm' : MoT} {dv : Nat → Int64} (hL : LE p c meth s m g b L xs) (hl : LV ls b ax (am 0) d i) (hin : LI i L)
    (hM : gM l yX8_held cX8_held 5 (some .int) rmC g [.ref ax, .int (sa xs i 1), .int (sa xs i 2), .int (sa xs i 3), .int (sa xs i 4)] w0 (fun _ => some (.int r)) w1 mc ms) (hrc : rmC.cells = mc ∧ rmC.slots = ms) (hrR : rmC.frames + 1 ≤ 14 ∧ 8 + (5 + 11) + rmC.locals ≤ 530) (he : w0[0]? = some (ax, .inr (9, fs)))
    (hf : f_X9_held sm (sa xs i 1) (sa xs i 2) (sa xs i 3) (sa xs i 4) = some (r, sm')) (hcs : cells + mc ≤ 601024 ∧ slots + ms ≤ 7293034)
    (hP : gP g (w0 ++ (po ++ (Mo_c g am sm ++ Lout g d dv))) H) (hD : va_D (lA s) (w0 ++ (po ++ (Mo_c g am sm ++ Lout g d dv)))) (hS : va_S (lA s) s.heap H locs)
    (next : ∀ (x : X) (H1 : Heap) (locs1 : List Loc), gP g (w1 x ++ (po ++ (Mo_c g am sm' ++ Lout g d dv))) H1 → va_D (lA s) (w1 x ++ (po ++ (Mo_c g am sm' ++ Lout g d dv))) → va_S (lA s) s.heap H1 locs1 → W p l e room_1 s m #[Value.ref b] below meth c H1 locs1 (cells + mc) (slots + ms) Q (F0 m 1571 ls [])) :
    W p l e room_1 s m #[Value.ref b] below meth c H locs cells slots Q (F0 m 1045 ls []) := by
  have hE := hL.1
  have hx := hE.1
  have hb := hE.2.1
  have hZ := hL.2.2.2.1
  have hA : ∀ q : Nat, s.heap.size ≤ q → lA s q := fun _ h => h
  refine lv_aload_n hx hb dl_1045 rfl (lv_at hl 1 rfl) ?_
  refine law_arg hL hl hS hin.1 dl_1046 dl_1047 dl_1049 kci_1 dl_1050 dl_1051 ?_
  refine law_arg hL hl hS hin.2.1 dl_1052 dl_1053 dl_1055 kci_2 dl_1056 dl_1057 ?_
  refine law_arg hL hl hS hin.2.2.1 dl_1058 dl_1059 dl_1061 kci_3 dl_1062 dl_1063 ?_
  refine law_arg hL hl hS hin.2.2.2.1 dl_1064 dl_1065 dl_1067 kci_4 dl_1068 dl_1069 ?_
  refine gm_callVp (As := [.int (sa xs i 1), .int (sa xs i 2), .int (sa xs i 3), .int (sa xs i 4)]) (rest := []) (st1 := fun _ => [.int r]) (ws' := fun x => w1 x ++ (po ++ (Mo_c g am sm ++ Lout g d dv))) hE hl.1 ml_L_123 hM hZ hP hD hS hA [] (po ++ (Mo_c g am sm ++ Lout g d dv)) rfl (fun _ => rfl) okX8 he rfl rfl (fun _ => rfl) hrc hrR hcs (Nat.le_of_ble_eq_true rfl) dl_1070 (fun x H locs hP hD hS => ?_)
  refine lv_aload_n hx hb dl_1073 rfl (lv_at hl 2 rfl) ?_
  refine law_arg hL hl hS hin.1 dl_1074 dl_1075 dl_1077 kci_1 dl_1078 dl_1079 ?_
  refine law_arg hL hl hS hin.2.1 dl_1080 dl_1081 dl_1083 kci_2 dl_1084 dl_1085 ?_
  refine law_arg hL hl hS hin.2.2.1 dl_1086 dl_1087 dl_1089 kci_3 dl_1090 dl_1091 ?_
  refine law_arg hL hl hS hin.2.2.2.1 dl_1092 dl_1093 dl_1095 kci_4 dl_1096 dl_1097 ?_
  refine gm_callVp (As := [.int (sa xs i 1), .int (sa xs i 2), .int (sa xs i 3), .int (sa xs i 4)]) (rest := [.int r]) (st1 := fun _ => [.int r, .int r]) (ws' := fun _ : Unit => w1 x ++ (po ++ (Mo_c g am sm' ++ Lout g d dv))) hE hl.1 ml_L_127 (c_X9_held l g am sm (sa xs i 1) (sa xs i 2) (sa xs i 3) (sa xs i 4) (r, sm') hf) hZ hP hD hS hA (w1 x ++ po) (Lout g d dv) (List.append_assoc _ _ _).symm (fun _ => List.append_assoc _ _ _) okX9 rfl rfl rfl (fun _ => rfl) ⟨rfl, rfl⟩ ⟨Nat.le_of_ble_eq_true rfl, Nat.le_of_ble_eq_true rfl⟩ hcs (Nat.le_of_ble_eq_true rfl) dl_1098 (fun _ H locs hP hD hS => ?_)
  exact lv_icmp_eq hx hb dl_1101 (tgt := 1571) rfl (fun _ => next x H locs hP hD hS) (fun h => absurd rfl h)
set_option maxHeartbeats 1000000 in
theorem lo_lag {X : Type} {rmC : Room} {w0 po : va_W} {w1 : X → va_W} {fs : List Value} {r : Int32} {mc ms : Nat} {sm sm' : MoT} {dv : Nat → Int64} (hL : LE p c meth s m g b L xs) (hl : LV ls b ax (am 0) d i) (hin : LI i L)
    (hM : gM l yX8_lag cX8_lag 3 (some .int) rmC g [.ref ax, .int (sa xs i 1), .int (sa xs i 2)] w0 (fun _ => some (.int r)) w1 mc ms) (hrc : rmC.cells = mc ∧ rmC.slots = ms) (hrR : rmC.frames + 1 ≤ 14 ∧ 8 + (3 + 11) + rmC.locals ≤ 530) (he : w0[0]? = some (ax, .inr (9, fs)))
    (hf : f_X9_lag sm (sa xs i 1) (sa xs i 2) = some (r, sm')) (hcs : cells + mc ≤ 601024 ∧ slots + ms ≤ 7293034)
    (hP : gP g (w0 ++ (po ++ (Mo_c g am sm ++ Lout g d dv))) H) (hD : va_D (lA s) (w0 ++ (po ++ (Mo_c g am sm ++ Lout g d dv)))) (hS : va_S (lA s) s.heap H locs)
    (next : ∀ (x : X) (H1 : Heap) (locs1 : List Loc), gP g (w1 x ++ (po ++ (Mo_c g am sm' ++ Lout g d dv))) H1 → va_D (lA s) (w1 x ++ (po ++ (Mo_c g am sm' ++ Lout g d dv))) → va_S (lA s) s.heap H1 locs1 → W p l e room_1 s m #[Value.ref b] below meth c H1 locs1 (cells + mc) (slots + ms) Q (F0 m 1571 ls [])) :
    W p l e room_1 s m #[Value.ref b] below meth c H locs cells slots Q (F0 m 1106 ls []) := by
  have hE := hL.1
  have hx := hE.1
  have hb := hE.2.1
  have hZ := hL.2.2.2.1
  have hA : ∀ q : Nat, s.heap.size ≤ q → lA s q := fun _ h => h
  refine lv_aload_n hx hb dl_1106 rfl (lv_at hl 1 rfl) ?_
  refine law_arg hL hl hS hin.1 dl_1107 dl_1108 dl_1110 kci_1 dl_1111 dl_1112 ?_
  refine law_arg hL hl hS hin.2.1 dl_1113 dl_1114 dl_1116 kci_2 dl_1117 dl_1118 ?_
  refine gm_callVp (As := [.int (sa xs i 1), .int (sa xs i 2)]) (rest := []) (st1 := fun _ => [.int r]) (ws' := fun x => w1 x ++ (po ++ (Mo_c g am sm ++ Lout g d dv))) hE hl.1 ml_L_128 hM hZ hP hD hS hA [] (po ++ (Mo_c g am sm ++ Lout g d dv)) rfl (fun _ => rfl) okX8 he rfl rfl (fun _ => rfl) hrc hrR hcs (Nat.le_of_ble_eq_true rfl) dl_1119 (fun x H locs hP hD hS => ?_)
  refine lv_aload_n hx hb dl_1122 rfl (lv_at hl 2 rfl) ?_
  refine law_arg hL hl hS hin.1 dl_1123 dl_1124 dl_1126 kci_1 dl_1127 dl_1128 ?_
  refine law_arg hL hl hS hin.2.1 dl_1129 dl_1130 dl_1132 kci_2 dl_1133 dl_1134 ?_
  refine gm_callVp (As := [.int (sa xs i 1), .int (sa xs i 2)]) (rest := [.int r]) (st1 := fun _ => [.int r, .int r]) (ws' := fun _ : Unit => w1 x ++ (po ++ (Mo_c g am sm' ++ Lout g d dv))) hE hl.1 ml_L_131 (c_X9_lag l g am sm (sa xs i 1) (sa xs i 2) (r, sm') hf) hZ hP hD hS hA (w1 x ++ po) (Lout g d dv) (List.append_assoc _ _ _).symm (fun _ => List.append_assoc _ _ _) okX9 rfl rfl rfl (fun _ => rfl) ⟨rfl, rfl⟩ ⟨Nat.le_of_ble_eq_true rfl, Nat.le_of_ble_eq_true rfl⟩ hcs (Nat.le_of_ble_eq_true rfl) dl_1135 (fun _ H locs hP hD hS => ?_)
  exact lv_icmp_eq hx hb dl_1138 (tgt := 1571) rfl (fun _ => next x H locs hP hD hS) (fun h => absurd rfl h)
set_option maxHeartbeats 1000000 in
theorem lo_would {X : Type} {rmC : Room} {w0 po : va_W} {w1 : X → va_W} {fs : List Value} {r : Int32} {mc ms : Nat} {sm sm' : MoT} {dv : Nat → Int64} (hL : LE p c meth s m g b L xs) (hl : LV ls b ax (am 0) d i) (hin : LI i L)
    (hM : gM l yX8_would cX8_would 7 (some .int) rmC g [.ref ax, .int (sa xs i 1), .int (sa xs i 2), .int (sa xs i 3), .int (sa xs i 4), .int (sa xs i 5)] w0 (fun _ => some (.int r)) w1 mc ms) (hrc : rmC.cells = mc ∧ rmC.slots = ms) (hrR : rmC.frames + 1 ≤ 14 ∧ 8 + (7 + 11) + rmC.locals ≤ 530) (he : w0[0]? = some (ax, .inr (9, fs)))
    (hf : f_X9_would sm (sa xs i 1) (sa xs i 2) (sa xs i 3) (sa xs i 4) (sa xs i 5) = some (r, sm')) (hcs : cells + mc ≤ 601024 ∧ slots + ms ≤ 7293034)
    (hP : gP g (w0 ++ (po ++ (Mo_c g am sm ++ Lout g d dv))) H) (hD : va_D (lA s) (w0 ++ (po ++ (Mo_c g am sm ++ Lout g d dv)))) (hS : va_S (lA s) s.heap H locs)
    (next : ∀ (x : X) (H1 : Heap) (locs1 : List Loc), gP g (w1 x ++ (po ++ (Mo_c g am sm' ++ Lout g d dv))) H1 → va_D (lA s) (w1 x ++ (po ++ (Mo_c g am sm' ++ Lout g d dv))) → va_S (lA s) s.heap H1 locs1 → W p l e room_1 s m #[Value.ref b] below meth c H1 locs1 (cells + mc) (slots + ms) Q (F0 m 1571 ls [])) :
    W p l e room_1 s m #[Value.ref b] below meth c H locs cells slots Q (F0 m 1143 ls []) := by
  have hE := hL.1
  have hx := hE.1
  have hb := hE.2.1
  have hZ := hL.2.2.2.1
  have hA : ∀ q : Nat, s.heap.size ≤ q → lA s q := fun _ h => h
  refine lv_aload_n hx hb dl_1143 rfl (lv_at hl 1 rfl) ?_
  refine law_arg hL hl hS hin.1 dl_1144 dl_1145 dl_1147 kci_1 dl_1148 dl_1149 ?_
  refine law_arg hL hl hS hin.2.1 dl_1150 dl_1151 dl_1153 kci_2 dl_1154 dl_1155 ?_
  refine law_arg hL hl hS hin.2.2.1 dl_1156 dl_1157 dl_1159 kci_3 dl_1160 dl_1161 ?_
  refine law_arg hL hl hS hin.2.2.2.1 dl_1162 dl_1163 dl_1165 kci_4 dl_1166 dl_1167 ?_
  refine law_arg hL hl hS hin.2.2.2.2 dl_1168 dl_1169 dl_1171 kci_5 dl_1172 dl_1173 ?_
  refine gm_callVp (As := [.int (sa xs i 1), .int (sa xs i 2), .int (sa xs i 3), .int (sa xs i 4), .int (sa xs i 5)]) (rest := []) (st1 := fun _ => [.int r]) (ws' := fun x => w1 x ++ (po ++ (Mo_c g am sm ++ Lout g d dv))) hE hl.1 ml_L_132 hM hZ hP hD hS hA [] (po ++ (Mo_c g am sm ++ Lout g d dv)) rfl (fun _ => rfl) okX8 he rfl rfl (fun _ => rfl) hrc hrR hcs (Nat.le_of_ble_eq_true rfl) dl_1174 (fun x H locs hP hD hS => ?_)
  refine lv_aload_n hx hb dl_1177 rfl (lv_at hl 2 rfl) ?_
  refine law_arg hL hl hS hin.1 dl_1178 dl_1179 dl_1181 kci_1 dl_1182 dl_1183 ?_
  refine law_arg hL hl hS hin.2.1 dl_1184 dl_1185 dl_1187 kci_2 dl_1188 dl_1189 ?_
  refine law_arg hL hl hS hin.2.2.1 dl_1190 dl_1191 dl_1193 kci_3 dl_1194 dl_1195 ?_
  refine law_arg hL hl hS hin.2.2.2.1 dl_1196 dl_1197 dl_1199 kci_4 dl_1200 dl_1201 ?_
  refine law_arg hL hl hS hin.2.2.2.2 dl_1202 dl_1203 dl_1205 kci_5 dl_1206 dl_1207 ?_
  refine gm_callVp (As := [.int (sa xs i 1), .int (sa xs i 2), .int (sa xs i 3), .int (sa xs i 4), .int (sa xs i 5)]) (rest := [.int r]) (st1 := fun _ => [.int r, .int r]) (ws' := fun _ : Unit => w1 x ++ (po ++ (Mo_c g am sm' ++ Lout g d dv))) hE hl.1 ml_L_135 (c_X9_would l g am sm (sa xs i 1) (sa xs i 2) (sa xs i 3) (sa xs i 4) (sa xs i 5) (r, sm') hf) hZ hP hD hS hA (w1 x ++ po) (Lout g d dv) (List.append_assoc _ _ _).symm (fun _ => List.append_assoc _ _ _) okX9 rfl rfl rfl (fun _ => rfl) ⟨rfl, rfl⟩ ⟨Nat.le_of_ble_eq_true rfl, Nat.le_of_ble_eq_true rfl⟩ hcs (Nat.le_of_ble_eq_true rfl) dl_1208 (fun _ H locs hP hD hS => ?_)
  exact lv_icmp_eq hx hb dl_1211 (tgt := 1571) rfl (fun _ => next x H locs hP hD hS) (fun h => absurd rfl h)
set_option maxHeartbeats 1000000 in
theorem lo_nextLapse {X : Type} {rmC : Room} {w0 po : va_W} {w1 : X → va_W} {fs : List Value} {r : Int32} {mc ms : Nat} {sm sm' : MoT} {dv : Nat → Int64} (hL : LE p c meth s m g b L xs) (hl : LV ls b ax (am 0) d i) (hin : LI i L)
    (hM : gM l yX8_nextLapse cX8_nextLapse 1 (some .int) rmC g [.ref ax] w0 (fun _ => some (.int r)) w1 mc ms) (hrc : rmC.cells = mc ∧ rmC.slots = ms) (hrR : rmC.frames + 1 ≤ 14 ∧ 8 + (1 + 11) + rmC.locals ≤ 530) (he : w0[0]? = some (ax, .inr (9, fs)))
    (hf : f_X9_nextLapse sm = some (r, sm')) (hcs : cells + mc ≤ 601024 ∧ slots + ms ≤ 7293034)
    (hP : gP g (w0 ++ (po ++ (Mo_c g am sm ++ Lout g d dv))) H) (hD : va_D (lA s) (w0 ++ (po ++ (Mo_c g am sm ++ Lout g d dv)))) (hS : va_S (lA s) s.heap H locs)
    (next : ∀ (x : X) (H1 : Heap) (locs1 : List Loc), gP g (w1 x ++ (po ++ (Mo_c g am sm' ++ Lout g d dv))) H1 → va_D (lA s) (w1 x ++ (po ++ (Mo_c g am sm' ++ Lout g d dv))) → va_S (lA s) s.heap H1 locs1 → W p l e room_1 s m #[Value.ref b] below meth c H1 locs1 (cells + mc) (slots + ms) Q (F0 m 1571 ls [])) :
    W p l e room_1 s m #[Value.ref b] below meth c H locs cells slots Q (F0 m 1216 ls []) := by
  have hE := hL.1
  have hx := hE.1
  have hb := hE.2.1
  have hZ := hL.2.2.2.1
  have hA : ∀ q : Nat, s.heap.size ≤ q → lA s q := fun _ h => h
  refine lv_aload_n hx hb dl_1216 rfl (lv_at hl 1 rfl) ?_
  refine gm_callVp (As := []) (rest := []) (st1 := fun _ => [.int r]) (ws' := fun x => w1 x ++ (po ++ (Mo_c g am sm ++ Lout g d dv))) hE hl.1 ml_L_136 hM hZ hP hD hS hA [] (po ++ (Mo_c g am sm ++ Lout g d dv)) rfl (fun _ => rfl) okX8 he rfl rfl (fun _ => rfl) hrc hrR hcs (Nat.le_of_ble_eq_true rfl) dl_1217 (fun x H locs hP hD hS => ?_)
  refine lv_aload_n hx hb dl_1220 rfl (lv_at hl 2 rfl) ?_
  refine gm_callVp (As := []) (rest := [.int r]) (st1 := fun _ => [.int r, .int r]) (ws' := fun _ : Unit => w1 x ++ (po ++ (Mo_c g am sm' ++ Lout g d dv))) hE hl.1 ml_L_139 (c_X9_nextLapse l g am sm (r, sm') hf) hZ hP hD hS hA (w1 x ++ po) (Lout g d dv) (List.append_assoc _ _ _).symm (fun _ => List.append_assoc _ _ _) okX9 rfl rfl rfl (fun _ => rfl) ⟨rfl, rfl⟩ ⟨Nat.le_of_ble_eq_true rfl, Nat.le_of_ble_eq_true rfl⟩ hcs (Nat.le_of_ble_eq_true rfl) dl_1221 (fun _ H locs hP hD hS => ?_)
  exact lv_icmp_eq hx hb dl_1224 (tgt := 1571) rfl (fun _ => next x H locs hP hD hS) (fun h => absurd rfl h)
set_option maxHeartbeats 1000000 in
theorem lo_replay {X : Type} {rmC : Room} {w0 po : va_W} {w1 : X → va_W} {fs : List Value} {r : Int32} {mc ms : Nat} {sm sm' : MoT} {dv : Nat → Int64} (hL : LE p c meth s m g b L xs) (hl : LV ls b ax (am 0) d i) (hin : LI i L)
    (hM : gM l yX8_replay cX8_replay 3 (some .int) rmC g [.ref ax, .int (sa xs i 1), .int (sa xs i 2)] w0 (fun _ => some (.int r)) w1 mc ms) (hrc : rmC.cells = mc ∧ rmC.slots = ms) (hrR : rmC.frames + 1 ≤ 14 ∧ 8 + (3 + 11) + rmC.locals ≤ 530) (he : w0[0]? = some (ax, .inr (9, fs)))
    (hf : f_X9_replay sm (sa xs i 1) (sa xs i 2) = some (r, sm')) (hcs : cells + mc ≤ 601024 ∧ slots + ms ≤ 7293034)
    (hP : gP g (w0 ++ (po ++ (Mo_c g am sm ++ Lout g d dv))) H) (hD : va_D (lA s) (w0 ++ (po ++ (Mo_c g am sm ++ Lout g d dv)))) (hS : va_S (lA s) s.heap H locs)
    (next : ∀ (x : X) (H1 : Heap) (locs1 : List Loc), gP g (w1 x ++ (po ++ (Mo_c g am sm' ++ Lout g d dv))) H1 → va_D (lA s) (w1 x ++ (po ++ (Mo_c g am sm' ++ Lout g d dv))) → va_S (lA s) s.heap H1 locs1 → W p l e room_1 s m #[Value.ref b] below meth c H1 locs1 (cells + mc) (slots + ms) Q (F0 m 1571 ls [])) :
    W p l e room_1 s m #[Value.ref b] below meth c H locs cells slots Q (F0 m 1229 ls []) := by
  have hE := hL.1
  have hx := hE.1
  have hb := hE.2.1
  have hZ := hL.2.2.2.1
  have hA : ∀ q : Nat, s.heap.size ≤ q → lA s q := fun _ h => h
  refine lv_aload_n hx hb dl_1229 rfl (lv_at hl 1 rfl) ?_
  refine law_arg hL hl hS hin.1 dl_1230 dl_1231 dl_1233 kci_1 dl_1234 dl_1235 ?_
  refine law_arg hL hl hS hin.2.1 dl_1236 dl_1237 dl_1239 kci_2 dl_1240 dl_1241 ?_
  refine gm_callVp (As := [.int (sa xs i 1), .int (sa xs i 2)]) (rest := []) (st1 := fun _ => [.int r]) (ws' := fun x => w1 x ++ (po ++ (Mo_c g am sm ++ Lout g d dv))) hE hl.1 ml_L_140 hM hZ hP hD hS hA [] (po ++ (Mo_c g am sm ++ Lout g d dv)) rfl (fun _ => rfl) okX8 he rfl rfl (fun _ => rfl) hrc hrR hcs (Nat.le_of_ble_eq_true rfl) dl_1242 (fun x H locs hP hD hS => ?_)
  refine lv_aload_n hx hb dl_1245 rfl (lv_at hl 2 rfl) ?_
  refine law_arg hL hl hS hin.1 dl_1246 dl_1247 dl_1249 kci_1 dl_1250 dl_1251 ?_
  refine law_arg hL hl hS hin.2.1 dl_1252 dl_1253 dl_1255 kci_2 dl_1256 dl_1257 ?_
  refine gm_callVp (As := [.int (sa xs i 1), .int (sa xs i 2)]) (rest := [.int r]) (st1 := fun _ => [.int r, .int r]) (ws' := fun _ : Unit => w1 x ++ (po ++ (Mo_c g am sm' ++ Lout g d dv))) hE hl.1 ml_L_143 (c_X9_replay l g am sm (sa xs i 1) (sa xs i 2) (r, sm') hf) hZ hP hD hS hA (w1 x ++ po) (Lout g d dv) (List.append_assoc _ _ _).symm (fun _ => List.append_assoc _ _ _) okX9 rfl rfl rfl (fun _ => rfl) ⟨rfl, rfl⟩ ⟨Nat.le_of_ble_eq_true rfl, Nat.le_of_ble_eq_true rfl⟩ hcs (Nat.le_of_ble_eq_true rfl) dl_1258 (fun _ H locs hP hD hS => ?_)
  exact lv_icmp_eq hx hb dl_1261 (tgt := 1571) rfl (fun _ => next x H locs hP hD hS) (fun h => absurd rfl h)
set_option maxHeartbeats 1000000 in
theorem lo_cost {X : Type} {rmC : Room} {w0 po : va_W} {w1 : X → va_W} {fs : List Value} {r : Int32} {mc ms : Nat} {sm sm' : MoT} {dv : Nat → Int64} (hL : LE p c meth s m g b L xs) (hl : LV ls b ax (am 0) d i) (hin : LI i L)
    (hM : gM l yX8_cost cX8_cost 2 (some .int) rmC g [.ref ax, .int (sa xs i 1)] w0 (fun _ => some (.int r)) w1 mc ms) (hrc : rmC.cells = mc ∧ rmC.slots = ms) (hrR : rmC.frames + 1 ≤ 14 ∧ 8 + (2 + 11) + rmC.locals ≤ 530) (he : w0[0]? = some (ax, .inr (9, fs)))
    (hf : f_X9_cost sm (sa xs i 1) = some (r, sm')) (hcs : cells + mc ≤ 601024 ∧ slots + ms ≤ 7293034)
    (hP : gP g (w0 ++ (po ++ (Mo_c g am sm ++ Lout g d dv))) H) (hD : va_D (lA s) (w0 ++ (po ++ (Mo_c g am sm ++ Lout g d dv)))) (hS : va_S (lA s) s.heap H locs)
    (next : ∀ (x : X) (H1 : Heap) (locs1 : List Loc), gP g (w1 x ++ (po ++ (Mo_c g am sm' ++ Lout g d dv))) H1 → va_D (lA s) (w1 x ++ (po ++ (Mo_c g am sm' ++ Lout g d dv))) → va_S (lA s) s.heap H1 locs1 → W p l e room_1 s m #[Value.ref b] below meth c H1 locs1 (cells + mc) (slots + ms) Q (F0 m 1571 ls [])) :
    W p l e room_1 s m #[Value.ref b] below meth c H locs cells slots Q (F0 m 1266 ls []) := by
  have hE := hL.1
  have hx := hE.1
  have hb := hE.2.1
  have hZ := hL.2.2.2.1
  have hA : ∀ q : Nat, s.heap.size ≤ q → lA s q := fun _ h => h
  refine lv_aload_n hx hb dl_1266 rfl (lv_at hl 1 rfl) ?_
  refine law_arg hL hl hS hin.1 dl_1267 dl_1268 dl_1270 kci_1 dl_1271 dl_1272 ?_
  refine gm_callVp (As := [.int (sa xs i 1)]) (rest := []) (st1 := fun _ => [.int r]) (ws' := fun x => w1 x ++ (po ++ (Mo_c g am sm ++ Lout g d dv))) hE hl.1 ml_L_144 hM hZ hP hD hS hA [] (po ++ (Mo_c g am sm ++ Lout g d dv)) rfl (fun _ => rfl) okX8 he rfl rfl (fun _ => rfl) hrc hrR hcs (Nat.le_of_ble_eq_true rfl) dl_1273 (fun x H locs hP hD hS => ?_)
  refine lv_aload_n hx hb dl_1276 rfl (lv_at hl 2 rfl) ?_
  refine law_arg hL hl hS hin.1 dl_1277 dl_1278 dl_1280 kci_1 dl_1281 dl_1282 ?_
  refine gm_callVp (As := [.int (sa xs i 1)]) (rest := [.int r]) (st1 := fun _ => [.int r, .int r]) (ws' := fun _ : Unit => w1 x ++ (po ++ (Mo_c g am sm' ++ Lout g d dv))) hE hl.1 ml_L_147 (c_X9_cost l g am sm (sa xs i 1) (r, sm') hf) hZ hP hD hS hA (w1 x ++ po) (Lout g d dv) (List.append_assoc _ _ _).symm (fun _ => List.append_assoc _ _ _) okX9 rfl rfl rfl (fun _ => rfl) ⟨rfl, rfl⟩ ⟨Nat.le_of_ble_eq_true rfl, Nat.le_of_ble_eq_true rfl⟩ hcs (Nat.le_of_ble_eq_true rfl) dl_1283 (fun _ H locs hP hD hS => ?_)
  exact lv_icmp_eq hx hb dl_1286 (tgt := 1571) rfl (fun _ => next x H locs hP hD hS) (fun h => absurd rfl h)
set_option maxHeartbeats 1000000 in
theorem lo_event {X : Type} {rmC : Room} {w0 po : va_W} {w1 : X → va_W} {fs : List Value} {r : Int32} {mc ms : Nat} {sm sm' : MoT} {dv : Nat → Int64} (hL : LE p c meth s m g b L xs) (hl : LV ls b ax (am 0) d i) (hin : LI i L)
    (hM : gM l yX8_event cX8_event 7 (some .int) rmC g [.ref ax, .int (sa xs i 1), .int (sa xs i 2), .int (sa xs i 3), .int (sa xs i 4), .int (sa xs i 5)] w0 (fun _ => some (.int r)) w1 mc ms) (hrc : rmC.cells = mc ∧ rmC.slots = ms) (hrR : rmC.frames + 1 ≤ 14 ∧ 8 + (7 + 11) + rmC.locals ≤ 530) (he : w0[0]? = some (ax, .inr (9, fs)))
    (hf : f_X9_event sm (sa xs i 1) (sa xs i 2) (sa xs i 3) (sa xs i 4) (sa xs i 5) = some (r, sm')) (hcs : cells + mc ≤ 601024 ∧ slots + ms ≤ 7293034)
    (hP : gP g (w0 ++ (po ++ (Mo_c g am sm ++ Lout g d dv))) H) (hD : va_D (lA s) (w0 ++ (po ++ (Mo_c g am sm ++ Lout g d dv)))) (hS : va_S (lA s) s.heap H locs)
    (next : ∀ (x : X) (H1 : Heap) (locs1 : List Loc), gP g (w1 x ++ (po ++ (Mo_c g am sm' ++ Lout g d dv))) H1 → va_D (lA s) (w1 x ++ (po ++ (Mo_c g am sm' ++ Lout g d dv))) → va_S (lA s) s.heap H1 locs1 → W p l e room_1 s m #[Value.ref b] below meth c H1 locs1 (cells + mc) (slots + ms) Q (F0 m 1571 ls [])) :
    W p l e room_1 s m #[Value.ref b] below meth c H locs cells slots Q (F0 m 1291 ls []) := by
  have hE := hL.1
  have hx := hE.1
  have hb := hE.2.1
  have hZ := hL.2.2.2.1
  have hA : ∀ q : Nat, s.heap.size ≤ q → lA s q := fun _ h => h
  refine lv_aload_n hx hb dl_1291 rfl (lv_at hl 1 rfl) ?_
  refine law_arg hL hl hS hin.1 dl_1292 dl_1293 dl_1295 kci_1 dl_1296 dl_1297 ?_
  refine law_arg hL hl hS hin.2.1 dl_1298 dl_1299 dl_1301 kci_2 dl_1302 dl_1303 ?_
  refine law_arg hL hl hS hin.2.2.1 dl_1304 dl_1305 dl_1307 kci_3 dl_1308 dl_1309 ?_
  refine law_arg hL hl hS hin.2.2.2.1 dl_1310 dl_1311 dl_1313 kci_4 dl_1314 dl_1315 ?_
  refine law_arg hL hl hS hin.2.2.2.2 dl_1316 dl_1317 dl_1319 kci_5 dl_1320 dl_1321 ?_
  refine gm_callVp (As := [.int (sa xs i 1), .int (sa xs i 2), .int (sa xs i 3), .int (sa xs i 4), .int (sa xs i 5)]) (rest := []) (st1 := fun _ => [.int r]) (ws' := fun x => w1 x ++ (po ++ (Mo_c g am sm ++ Lout g d dv))) hE hl.1 ml_L_148 hM hZ hP hD hS hA [] (po ++ (Mo_c g am sm ++ Lout g d dv)) rfl (fun _ => rfl) okX8 he rfl rfl (fun _ => rfl) hrc hrR hcs (Nat.le_of_ble_eq_true rfl) dl_1322 (fun x H locs hP hD hS => ?_)
  refine lv_aload_n hx hb dl_1325 rfl (lv_at hl 2 rfl) ?_
  refine law_arg hL hl hS hin.1 dl_1326 dl_1327 dl_1329 kci_1 dl_1330 dl_1331 ?_
  refine law_arg hL hl hS hin.2.1 dl_1332 dl_1333 dl_1335 kci_2 dl_1336 dl_1337 ?_
  refine law_arg hL hl hS hin.2.2.1 dl_1338 dl_1339 dl_1341 kci_3 dl_1342 dl_1343 ?_
  refine law_arg hL hl hS hin.2.2.2.1 dl_1344 dl_1345 dl_1347 kci_4 dl_1348 dl_1349 ?_
  refine law_arg hL hl hS hin.2.2.2.2 dl_1350 dl_1351 dl_1353 kci_5 dl_1354 dl_1355 ?_
  refine gm_callVp (As := [.int (sa xs i 1), .int (sa xs i 2), .int (sa xs i 3), .int (sa xs i 4), .int (sa xs i 5)]) (rest := [.int r]) (st1 := fun _ => [.int r, .int r]) (ws' := fun _ : Unit => w1 x ++ (po ++ (Mo_c g am sm' ++ Lout g d dv))) hE hl.1 ml_L_151 (c_X9_event l g am sm (sa xs i 1) (sa xs i 2) (sa xs i 3) (sa xs i 4) (sa xs i 5) (r, sm') hf) hZ hP hD hS hA (w1 x ++ po) (Lout g d dv) (List.append_assoc _ _ _).symm (fun _ => List.append_assoc _ _ _) okX9 rfl rfl rfl (fun _ => rfl) ⟨rfl, rfl⟩ ⟨Nat.le_of_ble_eq_true rfl, Nat.le_of_ble_eq_true rfl⟩ hcs (Nat.le_of_ble_eq_true rfl) dl_1356 (fun _ H locs hP hD hS => ?_)
  exact lv_icmp_eq hx hb dl_1359 (tgt := 1571) rfl (fun _ => next x H locs hP hD hS) (fun h => absurd rfl h)
set_option maxHeartbeats 1000000 in
theorem lo_tick {X : Type} {rmC : Room} {w0 po : va_W} {w1 : X → va_W} {fs : List Value} {r : Int32} {mc ms : Nat} {sm sm' : MoT} {dv : Nat → Int64} (hL : LE p c meth s m g b L xs) (hl : LV ls b ax (am 0) d i) (hin : LI i L)
    (hM : gM l yX8_tick cX8_tick 2 (some .int) rmC g [.ref ax, .int (sa xs i 1)] w0 (fun _ => some (.int r)) w1 mc ms) (hrc : rmC.cells = mc ∧ rmC.slots = ms) (hrR : rmC.frames + 1 ≤ 14 ∧ 8 + (2 + 11) + rmC.locals ≤ 530) (he : w0[0]? = some (ax, .inr (9, fs)))
    (hf : f_X9_tick sm (sa xs i 1) = some (r, sm')) (hcs : cells + mc ≤ 601024 ∧ slots + ms ≤ 7293034)
    (hP : gP g (w0 ++ (po ++ (Mo_c g am sm ++ Lout g d dv))) H) (hD : va_D (lA s) (w0 ++ (po ++ (Mo_c g am sm ++ Lout g d dv)))) (hS : va_S (lA s) s.heap H locs)
    (next : ∀ (x : X) (H1 : Heap) (locs1 : List Loc), gP g (w1 x ++ (po ++ (Mo_c g am sm' ++ Lout g d dv))) H1 → va_D (lA s) (w1 x ++ (po ++ (Mo_c g am sm' ++ Lout g d dv))) → va_S (lA s) s.heap H1 locs1 → W p l e room_1 s m #[Value.ref b] below meth c H1 locs1 (cells + mc) (slots + ms) Q (F0 m 1571 ls [])) :
    W p l e room_1 s m #[Value.ref b] below meth c H locs cells slots Q (F0 m 1364 ls []) := by
  have hE := hL.1
  have hx := hE.1
  have hb := hE.2.1
  have hZ := hL.2.2.2.1
  have hA : ∀ q : Nat, s.heap.size ≤ q → lA s q := fun _ h => h
  refine lv_aload_n hx hb dl_1364 rfl (lv_at hl 1 rfl) ?_
  refine law_arg hL hl hS hin.1 dl_1365 dl_1366 dl_1368 kci_1 dl_1369 dl_1370 ?_
  refine gm_callVp (As := [.int (sa xs i 1)]) (rest := []) (st1 := fun _ => [.int r]) (ws' := fun x => w1 x ++ (po ++ (Mo_c g am sm ++ Lout g d dv))) hE hl.1 ml_L_152 hM hZ hP hD hS hA [] (po ++ (Mo_c g am sm ++ Lout g d dv)) rfl (fun _ => rfl) okX8 he rfl rfl (fun _ => rfl) hrc hrR hcs (Nat.le_of_ble_eq_true rfl) dl_1371 (fun x H locs hP hD hS => ?_)
  refine lv_aload_n hx hb dl_1374 rfl (lv_at hl 2 rfl) ?_
  refine law_arg hL hl hS hin.1 dl_1375 dl_1376 dl_1378 kci_1 dl_1379 dl_1380 ?_
  refine gm_callVp (As := [.int (sa xs i 1)]) (rest := [.int r]) (st1 := fun _ => [.int r, .int r]) (ws' := fun _ : Unit => w1 x ++ (po ++ (Mo_c g am sm' ++ Lout g d dv))) hE hl.1 ml_L_155 (c_X9_tick l g am sm (sa xs i 1) (r, sm') hf) hZ hP hD hS hA (w1 x ++ po) (Lout g d dv) (List.append_assoc _ _ _).symm (fun _ => List.append_assoc _ _ _) okX9 rfl rfl rfl (fun _ => rfl) ⟨rfl, rfl⟩ ⟨Nat.le_of_ble_eq_true rfl, Nat.le_of_ble_eq_true rfl⟩ hcs (Nat.le_of_ble_eq_true rfl) dl_1381 (fun _ H locs hP hD hS => ?_)
  exact lv_icmp_eq hx hb dl_1384 (tgt := 1571) rfl (fun _ => next x H locs hP hD hS) (fun h => absurd rfl h)
set_option maxHeartbeats 1000000 in
theorem lo_how {X : Type} {rmC : Room} {w0 po : va_W} {w1 : X → va_W} {fs : List Value} {r : Int32} {mc ms : Nat} {sm sm' : MoT} {dv : Nat → Int64} (hL : LE p c meth s m g b L xs) (hl : LV ls b ax (am 0) d i) (hin : LI i L)
    (hM : gM l yX8_how cX8_how 2 (some .int) rmC g [.ref ax, .int (sa xs i 1)] w0 (fun _ => some (.int r)) w1 mc ms) (hrc : rmC.cells = mc ∧ rmC.slots = ms) (hrR : rmC.frames + 1 ≤ 14 ∧ 8 + (2 + 11) + rmC.locals ≤ 530) (he : w0[0]? = some (ax, .inr (9, fs)))
    (hf : f_X9_how sm (sa xs i 1) = some (r, sm')) (hcs : cells + mc ≤ 601024 ∧ slots + ms ≤ 7293034)
    (hP : gP g (w0 ++ (po ++ (Mo_c g am sm ++ Lout g d dv))) H) (hD : va_D (lA s) (w0 ++ (po ++ (Mo_c g am sm ++ Lout g d dv)))) (hS : va_S (lA s) s.heap H locs)
    (next : ∀ (x : X) (H1 : Heap) (locs1 : List Loc), gP g (w1 x ++ (po ++ (Mo_c g am sm' ++ Lout g d dv))) H1 → va_D (lA s) (w1 x ++ (po ++ (Mo_c g am sm' ++ Lout g d dv))) → va_S (lA s) s.heap H1 locs1 → W p l e room_1 s m #[Value.ref b] below meth c H1 locs1 (cells + mc) (slots + ms) Q (F0 m 1571 ls [])) :
    W p l e room_1 s m #[Value.ref b] below meth c H locs cells slots Q (F0 m 1389 ls []) := by
  have hE := hL.1
  have hx := hE.1
  have hb := hE.2.1
  have hZ := hL.2.2.2.1
  have hA : ∀ q : Nat, s.heap.size ≤ q → lA s q := fun _ h => h
  refine lv_aload_n hx hb dl_1389 rfl (lv_at hl 1 rfl) ?_
  refine law_arg hL hl hS hin.1 dl_1390 dl_1391 dl_1393 kci_1 dl_1394 dl_1395 ?_
  refine gm_callVp (As := [.int (sa xs i 1)]) (rest := []) (st1 := fun _ => [.int r]) (ws' := fun x => w1 x ++ (po ++ (Mo_c g am sm ++ Lout g d dv))) hE hl.1 ml_L_156 hM hZ hP hD hS hA [] (po ++ (Mo_c g am sm ++ Lout g d dv)) rfl (fun _ => rfl) okX8 he rfl rfl (fun _ => rfl) hrc hrR hcs (Nat.le_of_ble_eq_true rfl) dl_1396 (fun x H locs hP hD hS => ?_)
  refine lv_aload_n hx hb dl_1399 rfl (lv_at hl 2 rfl) ?_
  refine law_arg hL hl hS hin.1 dl_1400 dl_1401 dl_1403 kci_1 dl_1404 dl_1405 ?_
  refine gm_callVp (As := [.int (sa xs i 1)]) (rest := [.int r]) (st1 := fun _ => [.int r, .int r]) (ws' := fun _ : Unit => w1 x ++ (po ++ (Mo_c g am sm' ++ Lout g d dv))) hE hl.1 ml_L_159 (c_X9_how l g am sm (sa xs i 1) (r, sm') hf) hZ hP hD hS hA (w1 x ++ po) (Lout g d dv) (List.append_assoc _ _ _).symm (fun _ => List.append_assoc _ _ _) okX9 rfl rfl rfl (fun _ => rfl) ⟨rfl, rfl⟩ ⟨Nat.le_of_ble_eq_true rfl, Nat.le_of_ble_eq_true rfl⟩ hcs (Nat.le_of_ble_eq_true rfl) dl_1406 (fun _ H locs hP hD hS => ?_)
  exact lv_icmp_eq hx hb dl_1409 (tgt := 1571) rfl (fun _ => next x H locs hP hD hS) (fun h => absurd rfl h)
set_option maxHeartbeats 1000000 in
theorem lo_bounds {X : Type} {rmC : Room} {w0 po : va_W} {w1 : X → va_W} {fs : List Value} {r : Int32} {mc ms : Nat} {sm sm' : MoT} {dv : Nat → Int64} (hL : LE p c meth s m g b L xs) (hl : LV ls b ax (am 0) d i) (hin : LI i L)
    (hM : gM l yX8_bounds cX8_bounds 3 (some .boolean) rmC g [.ref ax, .int (sa xs i 1), .int (sa xs i 2)] w0 (fun _ => some (.int r)) w1 mc ms) (hrc : rmC.cells = mc ∧ rmC.slots = ms) (hrR : rmC.frames + 1 ≤ 14 ∧ 8 + (3 + 11) + rmC.locals ≤ 530) (he : w0[0]? = some (ax, .inr (9, fs)))
    (hf : f_X9_bounds sm (sa xs i 1) (sa xs i 2) = some (r, sm')) (hcs : cells + mc ≤ 601024 ∧ slots + ms ≤ 7293034)
    (hP : gP g (w0 ++ (po ++ (Mo_c g am sm ++ Lout g d dv))) H) (hD : va_D (lA s) (w0 ++ (po ++ (Mo_c g am sm ++ Lout g d dv)))) (hS : va_S (lA s) s.heap H locs)
    (next : ∀ (x : X) (H1 : Heap) (locs1 : List Loc), gP g (w1 x ++ (po ++ (Mo_c g am sm' ++ Lout g d dv))) H1 → va_D (lA s) (w1 x ++ (po ++ (Mo_c g am sm' ++ Lout g d dv))) → va_S (lA s) s.heap H1 locs1 → W p l e room_1 s m #[Value.ref b] below meth c H1 locs1 (cells + mc) (slots + ms) Q (F0 m 1571 ls [])) :
    W p l e room_1 s m #[Value.ref b] below meth c H locs cells slots Q (F0 m 1414 ls []) := by
  have hE := hL.1
  have hx := hE.1
  have hb := hE.2.1
  have hZ := hL.2.2.2.1
  have hA : ∀ q : Nat, s.heap.size ≤ q → lA s q := fun _ h => h
  refine lv_aload_n hx hb dl_1414 rfl (lv_at hl 1 rfl) ?_
  refine law_arg hL hl hS hin.1 dl_1415 dl_1416 dl_1418 kci_1 dl_1419 dl_1420 ?_
  refine law_arg hL hl hS hin.2.1 dl_1421 dl_1422 dl_1424 kci_2 dl_1425 dl_1426 ?_
  refine gm_callVp (As := [.int (sa xs i 1), .int (sa xs i 2)]) (rest := []) (st1 := fun _ => [.int r]) (ws' := fun x => w1 x ++ (po ++ (Mo_c g am sm ++ Lout g d dv))) hE hl.1 ml_L_160 hM hZ hP hD hS hA [] (po ++ (Mo_c g am sm ++ Lout g d dv)) rfl (fun _ => rfl) okX8 he rfl rfl (fun _ => rfl) hrc hrR hcs (Nat.le_of_ble_eq_true rfl) dl_1427 (fun x H locs hP hD hS => ?_)
  refine lv_aload_n hx hb dl_1430 rfl (lv_at hl 2 rfl) ?_
  refine law_arg hL hl hS hin.1 dl_1431 dl_1432 dl_1434 kci_1 dl_1435 dl_1436 ?_
  refine law_arg hL hl hS hin.2.1 dl_1437 dl_1438 dl_1440 kci_2 dl_1441 dl_1442 ?_
  refine gm_callVp (As := [.int (sa xs i 1), .int (sa xs i 2)]) (rest := [.int r]) (st1 := fun _ => [.int r, .int r]) (ws' := fun _ : Unit => w1 x ++ (po ++ (Mo_c g am sm' ++ Lout g d dv))) hE hl.1 ml_L_164 (c_X9_bounds l g am sm (sa xs i 1) (sa xs i 2) (r, sm') hf) hZ hP hD hS hA (w1 x ++ po) (Lout g d dv) (List.append_assoc _ _ _).symm (fun _ => List.append_assoc _ _ _) okX9 rfl rfl rfl (fun _ => rfl) ⟨rfl, rfl⟩ ⟨Nat.le_of_ble_eq_true rfl, Nat.le_of_ble_eq_true rfl⟩ hcs (Nat.le_of_ble_eq_true rfl) dl_1443 (fun _ H locs hP hD hS => ?_)
  exact lv_icmp_eq hx hb dl_1446 (tgt := 1571) rfl (fun _ => next x H locs hP hD hS) (fun h => absurd rfl h)
set_option maxHeartbeats 1000000 in
theorem lo_keep {X : Type} {rmC : Room} {w0 po : va_W} {w1 : X → va_W} {fs : List Value} {r : Int32} {mc ms : Nat} {sm sm' : MoT} {dv : Nat → Int64} (hL : LE p c meth s m g b L xs) (hl : LV ls b ax (am 0) d i) (hin : LI i L)
    (hM : gM l yX8_keep cX8_keep 1 (some .boolean) rmC g [.ref ax] w0 (fun _ => some (.int r)) w1 mc ms) (hrc : rmC.cells = mc ∧ rmC.slots = ms) (hrR : rmC.frames + 1 ≤ 14 ∧ 8 + (1 + 11) + rmC.locals ≤ 530) (he : w0[0]? = some (ax, .inr (9, fs)))
    (hf : f_X9_keep sm = some (r, sm')) (hcs : cells + mc ≤ 601024 ∧ slots + ms ≤ 7293034)
    (hP : gP g (w0 ++ (po ++ (Mo_c g am sm ++ Lout g d dv))) H) (hD : va_D (lA s) (w0 ++ (po ++ (Mo_c g am sm ++ Lout g d dv)))) (hS : va_S (lA s) s.heap H locs)
    (next : ∀ (x : X) (H1 : Heap) (locs1 : List Loc), gP g (w1 x ++ (po ++ (Mo_c g am sm' ++ Lout g d dv))) H1 → va_D (lA s) (w1 x ++ (po ++ (Mo_c g am sm' ++ Lout g d dv))) → va_S (lA s) s.heap H1 locs1 → W p l e room_1 s m #[Value.ref b] below meth c H1 locs1 (cells + mc) (slots + ms) Q (F0 m 1571 ls [])) :
    W p l e room_1 s m #[Value.ref b] below meth c H locs cells slots Q (F0 m 1451 ls []) := by
  have hE := hL.1
  have hx := hE.1
  have hb := hE.2.1
  have hZ := hL.2.2.2.1
  have hA : ∀ q : Nat, s.heap.size ≤ q → lA s q := fun _ h => h
  refine lv_aload_n hx hb dl_1451 rfl (lv_at hl 1 rfl) ?_
  refine gm_callVp (As := []) (rest := []) (st1 := fun _ => [.int r]) (ws' := fun x => w1 x ++ (po ++ (Mo_c g am sm ++ Lout g d dv))) hE hl.1 ml_L_165 hM hZ hP hD hS hA [] (po ++ (Mo_c g am sm ++ Lout g d dv)) rfl (fun _ => rfl) okX8 he rfl rfl (fun _ => rfl) hrc hrR hcs (Nat.le_of_ble_eq_true rfl) dl_1452 (fun x H locs hP hD hS => ?_)
  refine lv_aload_n hx hb dl_1455 rfl (lv_at hl 2 rfl) ?_
  refine gm_callVp (As := []) (rest := [.int r]) (st1 := fun _ => [.int r, .int r]) (ws' := fun _ : Unit => w1 x ++ (po ++ (Mo_c g am sm' ++ Lout g d dv))) hE hl.1 ml_L_169 (c_X9_keep l g am sm (r, sm') hf) hZ hP hD hS hA (w1 x ++ po) (Lout g d dv) (List.append_assoc _ _ _).symm (fun _ => List.append_assoc _ _ _) okX9 rfl rfl rfl (fun _ => rfl) ⟨rfl, rfl⟩ ⟨Nat.le_of_ble_eq_true rfl, Nat.le_of_ble_eq_true rfl⟩ hcs (Nat.le_of_ble_eq_true rfl) dl_1456 (fun _ H locs hP hD hS => ?_)
  exact lv_icmp_eq hx hb dl_1459 (tgt := 1571) rfl (fun _ => next x H locs hP hD hS) (fun h => absurd rfl h)
set_option maxHeartbeats 1000000 in
theorem lo_back {X : Type} {rmC : Room} {w0 po : va_W} {w1 : X → va_W} {fs : List Value} {r : Int32} {mc ms : Nat} {sm sm' : MoT} {dv : Nat → Int64} (hL : LE p c meth s m g b L xs) (hl : LV ls b ax (am 0) d i) (hin : LI i L)
    (hM : gM l yX8_back cX8_back 1 (some .boolean) rmC g [.ref ax] w0 (fun _ => some (.int r)) w1 mc ms) (hrc : rmC.cells = mc ∧ rmC.slots = ms) (hrR : rmC.frames + 1 ≤ 14 ∧ 8 + (1 + 11) + rmC.locals ≤ 530) (he : w0[0]? = some (ax, .inr (9, fs)))
    (hf : f_X9_back sm = some (r, sm')) (hcs : cells + mc ≤ 601024 ∧ slots + ms ≤ 7293034)
    (hP : gP g (w0 ++ (po ++ (Mo_c g am sm ++ Lout g d dv))) H) (hD : va_D (lA s) (w0 ++ (po ++ (Mo_c g am sm ++ Lout g d dv)))) (hS : va_S (lA s) s.heap H locs)
    (next : ∀ (x : X) (H1 : Heap) (locs1 : List Loc), gP g (w1 x ++ (po ++ (Mo_c g am sm' ++ Lout g d dv))) H1 → va_D (lA s) (w1 x ++ (po ++ (Mo_c g am sm' ++ Lout g d dv))) → va_S (lA s) s.heap H1 locs1 → W p l e room_1 s m #[Value.ref b] below meth c H1 locs1 (cells + mc) (slots + ms) Q (F0 m 1571 ls [])) :
    W p l e room_1 s m #[Value.ref b] below meth c H locs cells slots Q (F0 m 1464 ls []) := by
  have hE := hL.1
  have hx := hE.1
  have hb := hE.2.1
  have hZ := hL.2.2.2.1
  have hA : ∀ q : Nat, s.heap.size ≤ q → lA s q := fun _ h => h
  refine lv_aload_n hx hb dl_1464 rfl (lv_at hl 1 rfl) ?_
  refine gm_callVp (As := []) (rest := []) (st1 := fun _ => [.int r]) (ws' := fun x => w1 x ++ (po ++ (Mo_c g am sm ++ Lout g d dv))) hE hl.1 ml_L_170 hM hZ hP hD hS hA [] (po ++ (Mo_c g am sm ++ Lout g d dv)) rfl (fun _ => rfl) okX8 he rfl rfl (fun _ => rfl) hrc hrR hcs (Nat.le_of_ble_eq_true rfl) dl_1465 (fun x H locs hP hD hS => ?_)
  refine lv_aload_n hx hb dl_1468 rfl (lv_at hl 2 rfl) ?_
  refine gm_callVp (As := []) (rest := [.int r]) (st1 := fun _ => [.int r, .int r]) (ws' := fun _ : Unit => w1 x ++ (po ++ (Mo_c g am sm' ++ Lout g d dv))) hE hl.1 ml_L_173 (c_X9_back l g am sm (r, sm') hf) hZ hP hD hS hA (w1 x ++ po) (Lout g d dv) (List.append_assoc _ _ _).symm (fun _ => List.append_assoc _ _ _) okX9 rfl rfl rfl (fun _ => rfl) ⟨rfl, rfl⟩ ⟨Nat.le_of_ble_eq_true rfl, Nat.le_of_ble_eq_true rfl⟩ hcs (Nat.le_of_ble_eq_true rfl) dl_1469 (fun _ H locs hP hD hS => ?_)
  exact lv_icmp_eq hx hb dl_1472 (tgt := 1571) rfl (fun _ => next x H locs hP hD hS) (fun h => absurd rfl h)
set_option maxHeartbeats 1000000 in
theorem lo_size {X : Type} {rmC : Room} {w0 po : va_W} {w1 : X → va_W} {fs : List Value} {r : Int32} {mc ms : Nat} {sm sm' : MoT} {dv : Nat → Int64} (hL : LE p c meth s m g b L xs) (hl : LV ls b ax (am 0) d i) (hin : LI i L)
    (hM : gM l yX8_size cX8_size 2 (some .int) rmC g [.ref ax, .int (sa xs i 1)] w0 (fun _ => some (.int r)) w1 mc ms) (hrc : rmC.cells = mc ∧ rmC.slots = ms) (hrR : rmC.frames + 1 ≤ 14 ∧ 8 + (2 + 11) + rmC.locals ≤ 530) (he : w0[0]? = some (ax, .inr (9, fs)))
    (hf : f_X9_size sm (sa xs i 1) = some (r, sm')) (hcs : cells + mc ≤ 601024 ∧ slots + ms ≤ 7293034)
    (hP : gP g (w0 ++ (po ++ (Mo_c g am sm ++ Lout g d dv))) H) (hD : va_D (lA s) (w0 ++ (po ++ (Mo_c g am sm ++ Lout g d dv)))) (hS : va_S (lA s) s.heap H locs)
    (next : ∀ (x : X) (H1 : Heap) (locs1 : List Loc), gP g (w1 x ++ (po ++ (Mo_c g am sm' ++ Lout g d dv))) H1 → va_D (lA s) (w1 x ++ (po ++ (Mo_c g am sm' ++ Lout g d dv))) → va_S (lA s) s.heap H1 locs1 → W p l e room_1 s m #[Value.ref b] below meth c H1 locs1 (cells + mc) (slots + ms) Q (F0 m 1571 ls [])) :
    W p l e room_1 s m #[Value.ref b] below meth c H locs cells slots Q (F0 m 1533 ls []) := by
  have hE := hL.1
  have hx := hE.1
  have hb := hE.2.1
  have hZ := hL.2.2.2.1
  have hA : ∀ q : Nat, s.heap.size ≤ q → lA s q := fun _ h => h
  refine lv_aload_n hx hb dl_1533 rfl (lv_at hl 1 rfl) ?_
  refine law_arg hL hl hS hin.1 dl_1534 dl_1535 dl_1537 kci_1 dl_1538 dl_1539 ?_
  refine gm_callVp (As := [.int (sa xs i 1)]) (rest := []) (st1 := fun _ => [.int r]) (ws' := fun x => w1 x ++ (po ++ (Mo_c g am sm ++ Lout g d dv))) hE hl.1 ml_L_183 hM hZ hP hD hS hA [] (po ++ (Mo_c g am sm ++ Lout g d dv)) rfl (fun _ => rfl) okX8 he rfl rfl (fun _ => rfl) hrc hrR hcs (Nat.le_of_ble_eq_true rfl) dl_1540 (fun x H locs hP hD hS => ?_)
  refine lv_aload_n hx hb dl_1543 rfl (lv_at hl 2 rfl) ?_
  refine law_arg hL hl hS hin.1 dl_1544 dl_1545 dl_1547 kci_1 dl_1548 dl_1549 ?_
  refine gm_callVp (As := [.int (sa xs i 1)]) (rest := [.int r]) (st1 := fun _ => [.int r, .int r]) (ws' := fun _ : Unit => w1 x ++ (po ++ (Mo_c g am sm' ++ Lout g d dv))) hE hl.1 ml_L_186 (c_X9_size l g am sm (sa xs i 1) (r, sm') hf) hZ hP hD hS hA (w1 x ++ po) (Lout g d dv) (List.append_assoc _ _ _).symm (fun _ => List.append_assoc _ _ _) okX9 rfl rfl rfl (fun _ => rfl) ⟨rfl, rfl⟩ ⟨Nat.le_of_ble_eq_true rfl, Nat.le_of_ble_eq_true rfl⟩ hcs (Nat.le_of_ble_eq_true rfl) dl_1550 (fun _ H locs hP hD hS => ?_)
  exact lv_icmp_eq hx hb dl_1553 (tgt := 1571) rfl (fun _ => next x H locs hP hD hS) (fun h => absurd rfl h)
set_option maxHeartbeats 1000000 in
theorem lo_trouble {X : Type} {rmC : Room} {w0 po : va_W} {w1 : X → va_W} {fs : List Value} {r : Int32} {mc ms : Nat} {sm sm' : MoT} {dv : Nat → Int64} (hL : LE p c meth s m g b L xs) (hl : LV ls b ax (am 0) d i) (hin : LI i L)
    (hM : gM l yX8_trouble cX8_trouble 1 (some .int) rmC g [.ref ax] w0 (fun _ => some (.int r)) w1 mc ms) (hrc : rmC.cells = mc ∧ rmC.slots = ms) (hrR : rmC.frames + 1 ≤ 14 ∧ 8 + (1 + 11) + rmC.locals ≤ 530) (he : w0[0]? = some (ax, .inr (9, fs)))
    (hf : f_X9_trouble sm = some (r, sm')) (hcs : cells + mc ≤ 601024 ∧ slots + ms ≤ 7293034)
    (hP : gP g (w0 ++ (po ++ (Mo_c g am sm ++ Lout g d dv))) H) (hD : va_D (lA s) (w0 ++ (po ++ (Mo_c g am sm ++ Lout g d dv)))) (hS : va_S (lA s) s.heap H locs)
    (next : ∀ (x : X) (H1 : Heap) (locs1 : List Loc), gP g (w1 x ++ (po ++ (Mo_c g am sm' ++ Lout g d dv))) H1 → va_D (lA s) (w1 x ++ (po ++ (Mo_c g am sm' ++ Lout g d dv))) → va_S (lA s) s.heap H1 locs1 → W p l e room_1 s m #[Value.ref b] below meth c H1 locs1 (cells + mc) (slots + ms) Q (F0 m 1571 ls [])) :
    W p l e room_1 s m #[Value.ref b] below meth c H locs cells slots Q (F0 m 1558 ls []) := by
  have hE := hL.1
  have hx := hE.1
  have hb := hE.2.1
  have hZ := hL.2.2.2.1
  have hA : ∀ q : Nat, s.heap.size ≤ q → lA s q := fun _ h => h
  refine lv_aload_n hx hb dl_1558 rfl (lv_at hl 1 rfl) ?_
  refine gm_callVp (As := []) (rest := []) (st1 := fun _ => [.int r]) (ws' := fun x => w1 x ++ (po ++ (Mo_c g am sm ++ Lout g d dv))) hE hl.1 ml_L_187 hM hZ hP hD hS hA [] (po ++ (Mo_c g am sm ++ Lout g d dv)) rfl (fun _ => rfl) okX8 he rfl rfl (fun _ => rfl) hrc hrR hcs (Nat.le_of_ble_eq_true rfl) dl_1559 (fun x H locs hP hD hS => ?_)
  refine lv_aload_n hx hb dl_1562 rfl (lv_at hl 2 rfl) ?_
  refine gm_callVp (As := []) (rest := [.int r]) (st1 := fun _ => [.int r, .int r]) (ws' := fun _ : Unit => w1 x ++ (po ++ (Mo_c g am sm' ++ Lout g d dv))) hE hl.1 ml_L_190 (c_X9_trouble l g am sm (r, sm') hf) hZ hP hD hS hA (w1 x ++ po) (Lout g d dv) (List.append_assoc _ _ _).symm (fun _ => List.append_assoc _ _ _) okX9 rfl rfl rfl (fun _ => rfl) ⟨rfl, rfl⟩ ⟨Nat.le_of_ble_eq_true rfl, Nat.le_of_ble_eq_true rfl⟩ hcs (Nat.le_of_ble_eq_true rfl) dl_1563 (fun _ H locs hP hD hS => ?_)
  exact lv_icmp_eq hx hb dl_1566 (tgt := 1571) rfl (fun _ => next x H locs hP hD hS) (fun h => absurd rfl h)
end LAWO
