/-! the parser of the reference: what it writes, as one layer -/
abbrev QT : Type := (Nat → Int64) × (Nat → Int32) × (Nat → Int32) × (Nat → Int32) × (Nat → Int32) × (Nat → Int32) × (Nat → Int32) × (Nat → Int32) × Int32 × Int32 × Int32 × Int32 × Int32
def ps (t : MoT) (sp tk a nu f : Int32) (w : Int64) (q : QT) : MoT := Mo_mk (Mo_thrown t) (Mo_trouble t) (Mo_wrongAt t) (Mo_x t) (Mo_isThere t) (Mo_hasImage t) (Mo_tape t) (Mo_taped t) (Mo_size t) sp tk a nu f w (Mo_words t) (q.1) (q.2.1) (q.2.2.1) (q.2.2.2.1) (q.2.2.2.2.1) (q.2.2.2.2.2.1) (q.2.2.2.2.2.2.1) (q.2.2.2.2.2.2.2.1) (q.2.2.2.2.2.2.2.2.1) (q.2.2.2.2.2.2.2.2.2.1) (q.2.2.2.2.2.2.2.2.2.2.1) (q.2.2.2.2.2.2.2.2.2.2.2.1) (q.2.2.2.2.2.2.2.2.2.2.2.2) (Mo_foundKey t) (Mo_foundLeft t) (Mo_foundRight t) (Mo_sumSent t) (Mo_spelt t) (Mo_speltMany t) (Mo_order t)
theorem ps_thrown (t : MoT) (sp tk a nu f : Int32) (w : Int64) (q : QT) : Mo_thrown (ps t sp tk a nu f w q) = Mo_thrown t := rfl
theorem ps_trouble (t : MoT) (sp tk a nu f : Int32) (w : Int64) (q : QT) : Mo_trouble (ps t sp tk a nu f w q) = Mo_trouble t := rfl
theorem ps_wrongAt (t : MoT) (sp tk a nu f : Int32) (w : Int64) (q : QT) : Mo_wrongAt (ps t sp tk a nu f w q) = Mo_wrongAt t := rfl
theorem ps_x (t : MoT) (sp tk a nu f : Int32) (w : Int64) (q : QT) : Mo_x (ps t sp tk a nu f w q) = Mo_x t := rfl
theorem ps_isThere (t : MoT) (sp tk a nu f : Int32) (w : Int64) (q : QT) : Mo_isThere (ps t sp tk a nu f w q) = Mo_isThere t := rfl
theorem ps_hasImage (t : MoT) (sp tk a nu f : Int32) (w : Int64) (q : QT) : Mo_hasImage (ps t sp tk a nu f w q) = Mo_hasImage t := rfl
theorem ps_tape (t : MoT) (sp tk a nu f : Int32) (w : Int64) (q : QT) : Mo_tape (ps t sp tk a nu f w q) = Mo_tape t := rfl
theorem ps_taped (t : MoT) (sp tk a nu f : Int32) (w : Int64) (q : QT) : Mo_taped (ps t sp tk a nu f w q) = Mo_taped t := rfl
theorem ps_size (t : MoT) (sp tk a nu f : Int32) (w : Int64) (q : QT) : Mo_size (ps t sp tk a nu f w q) = Mo_size t := rfl
theorem ps_spot (t : MoT) (sp tk a nu f : Int32) (w : Int64) (q : QT) : Mo_spot (ps t sp tk a nu f w q) = sp := rfl
theorem ps_token (t : MoT) (sp tk a nu f : Int32) (w : Int64) (q : QT) : Mo_token (ps t sp tk a nu f w q) = tk := rfl
theorem ps_at (t : MoT) (sp tk a nu f : Int32) (w : Int64) (q : QT) : Mo_at (ps t sp tk a nu f w q) = a := rfl
theorem ps_number (t : MoT) (sp tk a nu f : Int32) (w : Int64) (q : QT) : Mo_number (ps t sp tk a nu f w q) = nu := rfl
theorem ps_fault (t : MoT) (sp tk a nu f : Int32) (w : Int64) (q : QT) : Mo_fault (ps t sp tk a nu f w q) = f := rfl
theorem ps_word (t : MoT) (sp tk a nu f : Int32) (w : Int64) (q : QT) : Mo_word (ps t sp tk a nu f w q) = w := rfl
theorem ps_words (t : MoT) (sp tk a nu f : Int32) (w : Int64) (q : QT) : Mo_words (ps t sp tk a nu f w q) = Mo_words t := rfl
theorem ps_readWords (t : MoT) (sp tk a nu f : Int32) (w : Int64) (q : QT) : Mo_readWords (ps t sp tk a nu f w q) = q.1 := rfl
theorem ps_readMany (t : MoT) (sp tk a nu f : Int32) (w : Int64) (q : QT) : Mo_readMany (ps t sp tk a nu f w q) = q.2.1 := rfl
theorem ps_lineKind (t : MoT) (sp tk a nu f : Int32) (w : Int64) (q : QT) : Mo_lineKind (ps t sp tk a nu f w q) = q.2.2.1 := rfl
theorem ps_lineSide (t : MoT) (sp tk a nu f : Int32) (w : Int64) (q : QT) : Mo_lineSide (ps t sp tk a nu f w q) = q.2.2.2.1 := rfl
theorem ps_lineKey (t : MoT) (sp tk a nu f : Int32) (w : Int64) (q : QT) : Mo_lineKey (ps t sp tk a nu f w q) = q.2.2.2.2.1 := rfl
theorem ps_lineValue (t : MoT) (sp tk a nu f : Int32) (w : Int64) (q : QT) : Mo_lineValue (ps t sp tk a nu f w q) = q.2.2.2.2.2.1 := rfl
theorem ps_lineMany (t : MoT) (sp tk a nu f : Int32) (w : Int64) (q : QT) : Mo_lineMany (ps t sp tk a nu f w q) = q.2.2.2.2.2.2.1 := rfl
theorem ps_lineTime (t : MoT) (sp tk a nu f : Int32) (w : Int64) (q : QT) : Mo_lineTime (ps t sp tk a nu f w q) = q.2.2.2.2.2.2.2.1 := rfl
theorem ps_lines (t : MoT) (sp tk a nu f : Int32) (w : Int64) (q : QT) : Mo_lines (ps t sp tk a nu f w q) = q.2.2.2.2.2.2.2.2.1 := rfl
theorem ps_readHow (t : MoT) (sp tk a nu f : Int32) (w : Int64) (q : QT) : Mo_readHow (ps t sp tk a nu f w q) = q.2.2.2.2.2.2.2.2.2.1 := rfl
theorem ps_readKeep (t : MoT) (sp tk a nu f : Int32) (w : Int64) (q : QT) : Mo_readKeep (ps t sp tk a nu f w q) = q.2.2.2.2.2.2.2.2.2.2.1 := rfl
theorem ps_readLate (t : MoT) (sp tk a nu f : Int32) (w : Int64) (q : QT) : Mo_readLate (ps t sp tk a nu f w q) = q.2.2.2.2.2.2.2.2.2.2.2.1 := rfl
theorem ps_hasDesk (t : MoT) (sp tk a nu f : Int32) (w : Int64) (q : QT) : Mo_hasDesk (ps t sp tk a nu f w q) = q.2.2.2.2.2.2.2.2.2.2.2.2 := rfl
theorem ps_foundKey (t : MoT) (sp tk a nu f : Int32) (w : Int64) (q : QT) : Mo_foundKey (ps t sp tk a nu f w q) = Mo_foundKey t := rfl
theorem ps_foundLeft (t : MoT) (sp tk a nu f : Int32) (w : Int64) (q : QT) : Mo_foundLeft (ps t sp tk a nu f w q) = Mo_foundLeft t := rfl
theorem ps_foundRight (t : MoT) (sp tk a nu f : Int32) (w : Int64) (q : QT) : Mo_foundRight (ps t sp tk a nu f w q) = Mo_foundRight t := rfl
theorem ps_sumSent (t : MoT) (sp tk a nu f : Int32) (w : Int64) (q : QT) : Mo_sumSent (ps t sp tk a nu f w q) = Mo_sumSent t := rfl
theorem ps_spelt (t : MoT) (sp tk a nu f : Int32) (w : Int64) (q : QT) : Mo_spelt (ps t sp tk a nu f w q) = Mo_spelt t := rfl
theorem ps_speltMany (t : MoT) (sp tk a nu f : Int32) (w : Int64) (q : QT) : Mo_speltMany (ps t sp tk a nu f w q) = Mo_speltMany t := rfl
theorem ps_order (t : MoT) (sp tk a nu f : Int32) (w : Int64) (q : QT) : Mo_order (ps t sp tk a nu f w q) = Mo_order t := rfl
def q_w_readWords (q : QT) (v : (Nat → Int64)) : QT := (v, q.2.1, q.2.2.1, q.2.2.2.1, q.2.2.2.2.1, q.2.2.2.2.2.1, q.2.2.2.2.2.2.1, q.2.2.2.2.2.2.2.1, q.2.2.2.2.2.2.2.2.1, q.2.2.2.2.2.2.2.2.2.1, q.2.2.2.2.2.2.2.2.2.2.1, q.2.2.2.2.2.2.2.2.2.2.2.1, q.2.2.2.2.2.2.2.2.2.2.2.2)
def q_w_readMany (q : QT) (v : (Nat → Int32)) : QT := (q.1, v, q.2.2.1, q.2.2.2.1, q.2.2.2.2.1, q.2.2.2.2.2.1, q.2.2.2.2.2.2.1, q.2.2.2.2.2.2.2.1, q.2.2.2.2.2.2.2.2.1, q.2.2.2.2.2.2.2.2.2.1, q.2.2.2.2.2.2.2.2.2.2.1, q.2.2.2.2.2.2.2.2.2.2.2.1, q.2.2.2.2.2.2.2.2.2.2.2.2)
def q_w_lineKind (q : QT) (v : (Nat → Int32)) : QT := (q.1, q.2.1, v, q.2.2.2.1, q.2.2.2.2.1, q.2.2.2.2.2.1, q.2.2.2.2.2.2.1, q.2.2.2.2.2.2.2.1, q.2.2.2.2.2.2.2.2.1, q.2.2.2.2.2.2.2.2.2.1, q.2.2.2.2.2.2.2.2.2.2.1, q.2.2.2.2.2.2.2.2.2.2.2.1, q.2.2.2.2.2.2.2.2.2.2.2.2)
def q_w_lineSide (q : QT) (v : (Nat → Int32)) : QT := (q.1, q.2.1, q.2.2.1, v, q.2.2.2.2.1, q.2.2.2.2.2.1, q.2.2.2.2.2.2.1, q.2.2.2.2.2.2.2.1, q.2.2.2.2.2.2.2.2.1, q.2.2.2.2.2.2.2.2.2.1, q.2.2.2.2.2.2.2.2.2.2.1, q.2.2.2.2.2.2.2.2.2.2.2.1, q.2.2.2.2.2.2.2.2.2.2.2.2)
def q_w_lineKey (q : QT) (v : (Nat → Int32)) : QT := (q.1, q.2.1, q.2.2.1, q.2.2.2.1, v, q.2.2.2.2.2.1, q.2.2.2.2.2.2.1, q.2.2.2.2.2.2.2.1, q.2.2.2.2.2.2.2.2.1, q.2.2.2.2.2.2.2.2.2.1, q.2.2.2.2.2.2.2.2.2.2.1, q.2.2.2.2.2.2.2.2.2.2.2.1, q.2.2.2.2.2.2.2.2.2.2.2.2)
def q_w_lineValue (q : QT) (v : (Nat → Int32)) : QT := (q.1, q.2.1, q.2.2.1, q.2.2.2.1, q.2.2.2.2.1, v, q.2.2.2.2.2.2.1, q.2.2.2.2.2.2.2.1, q.2.2.2.2.2.2.2.2.1, q.2.2.2.2.2.2.2.2.2.1, q.2.2.2.2.2.2.2.2.2.2.1, q.2.2.2.2.2.2.2.2.2.2.2.1, q.2.2.2.2.2.2.2.2.2.2.2.2)
def q_w_lineMany (q : QT) (v : (Nat → Int32)) : QT := (q.1, q.2.1, q.2.2.1, q.2.2.2.1, q.2.2.2.2.1, q.2.2.2.2.2.1, v, q.2.2.2.2.2.2.2.1, q.2.2.2.2.2.2.2.2.1, q.2.2.2.2.2.2.2.2.2.1, q.2.2.2.2.2.2.2.2.2.2.1, q.2.2.2.2.2.2.2.2.2.2.2.1, q.2.2.2.2.2.2.2.2.2.2.2.2)
def q_w_lineTime (q : QT) (v : (Nat → Int32)) : QT := (q.1, q.2.1, q.2.2.1, q.2.2.2.1, q.2.2.2.2.1, q.2.2.2.2.2.1, q.2.2.2.2.2.2.1, v, q.2.2.2.2.2.2.2.2.1, q.2.2.2.2.2.2.2.2.2.1, q.2.2.2.2.2.2.2.2.2.2.1, q.2.2.2.2.2.2.2.2.2.2.2.1, q.2.2.2.2.2.2.2.2.2.2.2.2)
def q_w_lines (q : QT) (v : Int32) : QT := (q.1, q.2.1, q.2.2.1, q.2.2.2.1, q.2.2.2.2.1, q.2.2.2.2.2.1, q.2.2.2.2.2.2.1, q.2.2.2.2.2.2.2.1, v, q.2.2.2.2.2.2.2.2.2.1, q.2.2.2.2.2.2.2.2.2.2.1, q.2.2.2.2.2.2.2.2.2.2.2.1, q.2.2.2.2.2.2.2.2.2.2.2.2)
def q_w_readHow (q : QT) (v : Int32) : QT := (q.1, q.2.1, q.2.2.1, q.2.2.2.1, q.2.2.2.2.1, q.2.2.2.2.2.1, q.2.2.2.2.2.2.1, q.2.2.2.2.2.2.2.1, q.2.2.2.2.2.2.2.2.1, v, q.2.2.2.2.2.2.2.2.2.2.1, q.2.2.2.2.2.2.2.2.2.2.2.1, q.2.2.2.2.2.2.2.2.2.2.2.2)
def q_w_readKeep (q : QT) (v : Int32) : QT := (q.1, q.2.1, q.2.2.1, q.2.2.2.1, q.2.2.2.2.1, q.2.2.2.2.2.1, q.2.2.2.2.2.2.1, q.2.2.2.2.2.2.2.1, q.2.2.2.2.2.2.2.2.1, q.2.2.2.2.2.2.2.2.2.1, v, q.2.2.2.2.2.2.2.2.2.2.2.1, q.2.2.2.2.2.2.2.2.2.2.2.2)
def q_w_readLate (q : QT) (v : Int32) : QT := (q.1, q.2.1, q.2.2.1, q.2.2.2.1, q.2.2.2.2.1, q.2.2.2.2.2.1, q.2.2.2.2.2.2.1, q.2.2.2.2.2.2.2.1, q.2.2.2.2.2.2.2.2.1, q.2.2.2.2.2.2.2.2.2.1, q.2.2.2.2.2.2.2.2.2.2.1, v, q.2.2.2.2.2.2.2.2.2.2.2.2)
def q_w_hasDesk (q : QT) (v : Int32) : QT := (q.1, q.2.1, q.2.2.1, q.2.2.2.1, q.2.2.2.2.1, q.2.2.2.2.2.1, q.2.2.2.2.2.2.1, q.2.2.2.2.2.2.2.1, q.2.2.2.2.2.2.2.2.1, q.2.2.2.2.2.2.2.2.2.1, q.2.2.2.2.2.2.2.2.2.2.1, q.2.2.2.2.2.2.2.2.2.2.2.1, v)
theorem ps_w_spot (t : MoT) (sp tk a nu f : Int32) (w : Int64) (q : QT) (v : Int32) : Mo_w_spot (ps t sp tk a nu f w q) v = ps t v tk a nu f w q := rfl
theorem ps_w_token (t : MoT) (sp tk a nu f : Int32) (w : Int64) (q : QT) (v : Int32) : Mo_w_token (ps t sp tk a nu f w q) v = ps t sp v a nu f w q := rfl
theorem ps_w_at (t : MoT) (sp tk a nu f : Int32) (w : Int64) (q : QT) (v : Int32) : Mo_w_at (ps t sp tk a nu f w q) v = ps t sp tk v nu f w q := rfl
theorem ps_w_number (t : MoT) (sp tk a nu f : Int32) (w : Int64) (q : QT) (v : Int32) : Mo_w_number (ps t sp tk a nu f w q) v = ps t sp tk a v f w q := rfl
theorem ps_w_fault (t : MoT) (sp tk a nu f : Int32) (w : Int64) (q : QT) (v : Int32) : Mo_w_fault (ps t sp tk a nu f w q) v = ps t sp tk a nu v w q := rfl
theorem ps_w_word (t : MoT) (sp tk a nu f : Int32) (w : Int64) (q : QT) (v : Int64) : Mo_w_word (ps t sp tk a nu f w q) v = ps t sp tk a nu f v q := rfl
theorem ps_w_readWords (t : MoT) (sp tk a nu f : Int32) (w : Int64) (q : QT) (v : (Nat → Int64)) : Mo_w_readWords (ps t sp tk a nu f w q) v = ps t sp tk a nu f w (q_w_readWords q v) := rfl
theorem ps_w_readMany (t : MoT) (sp tk a nu f : Int32) (w : Int64) (q : QT) (v : (Nat → Int32)) : Mo_w_readMany (ps t sp tk a nu f w q) v = ps t sp tk a nu f w (q_w_readMany q v) := rfl
theorem ps_w_lineKind (t : MoT) (sp tk a nu f : Int32) (w : Int64) (q : QT) (v : (Nat → Int32)) : Mo_w_lineKind (ps t sp tk a nu f w q) v = ps t sp tk a nu f w (q_w_lineKind q v) := rfl
theorem ps_w_lineSide (t : MoT) (sp tk a nu f : Int32) (w : Int64) (q : QT) (v : (Nat → Int32)) : Mo_w_lineSide (ps t sp tk a nu f w q) v = ps t sp tk a nu f w (q_w_lineSide q v) := rfl
theorem ps_w_lineKey (t : MoT) (sp tk a nu f : Int32) (w : Int64) (q : QT) (v : (Nat → Int32)) : Mo_w_lineKey (ps t sp tk a nu f w q) v = ps t sp tk a nu f w (q_w_lineKey q v) := rfl
theorem ps_w_lineValue (t : MoT) (sp tk a nu f : Int32) (w : Int64) (q : QT) (v : (Nat → Int32)) : Mo_w_lineValue (ps t sp tk a nu f w q) v = ps t sp tk a nu f w (q_w_lineValue q v) := rfl
theorem ps_w_lineMany (t : MoT) (sp tk a nu f : Int32) (w : Int64) (q : QT) (v : (Nat → Int32)) : Mo_w_lineMany (ps t sp tk a nu f w q) v = ps t sp tk a nu f w (q_w_lineMany q v) := rfl
theorem ps_w_lineTime (t : MoT) (sp tk a nu f : Int32) (w : Int64) (q : QT) (v : (Nat → Int32)) : Mo_w_lineTime (ps t sp tk a nu f w q) v = ps t sp tk a nu f w (q_w_lineTime q v) := rfl
theorem ps_w_lines (t : MoT) (sp tk a nu f : Int32) (w : Int64) (q : QT) (v : Int32) : Mo_w_lines (ps t sp tk a nu f w q) v = ps t sp tk a nu f w (q_w_lines q v) := rfl
theorem ps_w_readHow (t : MoT) (sp tk a nu f : Int32) (w : Int64) (q : QT) (v : Int32) : Mo_w_readHow (ps t sp tk a nu f w q) v = ps t sp tk a nu f w (q_w_readHow q v) := rfl
theorem ps_w_readKeep (t : MoT) (sp tk a nu f : Int32) (w : Int64) (q : QT) (v : Int32) : Mo_w_readKeep (ps t sp tk a nu f w q) v = ps t sp tk a nu f w (q_w_readKeep q v) := rfl
theorem ps_w_readLate (t : MoT) (sp tk a nu f : Int32) (w : Int64) (q : QT) (v : Int32) : Mo_w_readLate (ps t sp tk a nu f w q) v = ps t sp tk a nu f w (q_w_readLate q v) := rfl
theorem ps_w_hasDesk (t : MoT) (sp tk a nu f : Int32) (w : Int64) (q : QT) (v : Int32) : Mo_w_hasDesk (ps t sp tk a nu f w q) v = ps t sp tk a nu f w (q_w_hasDesk q v) := rfl
def qo (t : MoT) : QT := (Mo_readWords t, Mo_readMany t, Mo_lineKind t, Mo_lineSide t, Mo_lineKey t, Mo_lineValue t, Mo_lineMany t, Mo_lineTime t, Mo_lines t, Mo_readHow t, Mo_readKeep t, Mo_readLate t, Mo_hasDesk t)
theorem ps_self (t : MoT) : ps t (Mo_spot t) (Mo_token t) (Mo_at t) (Mo_number t) (Mo_fault t) (Mo_word t) (qo t) = t := rfl
theorem tI' (n : Nat) (h : n < 2147483648) : (nI n).toInt = (n : Int) := nI_toInt h
/-! bytes -/
theorem by_and {v : Int32} (h : isBy v) : (v &&& (255 : Int32)).toInt = if 0 ≤ v.toInt then v.toInt else v.toInt + 256 := by
  have key : ∀ k : Nat, k < 256 → ((Int32.ofInt ((k : Int) - 128)) &&& (255 : Int32)).toInt = if 0 ≤ ((k : Int) - 128) then ((k : Int) - 128) else ((k : Int) - 128) + 256 := by decide +kernel
  obtain ⟨h1, h2⟩ := h
  have e := key (v.toInt + 128).toNat (by omega)
  rw [show (((v.toInt + 128).toNat : Nat) : Int) - 128 = v.toInt by omega, Int32.ofInt_toInt] at e
  exact e
theorem by_eq {v : Int32} (h : isBy v) {c : Nat} (hc : c < 128) : (v &&& (255 : Int32) = nI c) = (v = nI c) := by
  rw [eqI, eqI, by_and h, tI (by omega)]
  obtain ⟨h1, h2⟩ := h
  split
  · rfl
  · exact propext ⟨fun e => by omega, fun e => by omega⟩
theorem by_m1 {v : Int32} (h : isBy v) : (v &&& (255 : Int32) = m1) = False := by
  refine eq_false (fun e => ?_)
  rw [eqI, by_and h] at e
  have h2 : m1.toInt = -1 := rfl
  obtain ⟨h1, h3⟩ := h
  split at e <;> omega
theorem by_nn {v : Int32} (h : isBy v) (h0 : 0 ≤ v.toInt) : v &&& (255 : Int32) = v := by
  rw [eqI, by_and h, if_pos h0]
def inR (a b : Nat) (v : Int32) : Prop := (a : Int) ≤ v.toInt ∧ v.toInt ≤ b
theorem by_in {v : Int32} (h : isBy v) {a b : Nat} (ha : a < 128) (hb : b < 128) : (inR a b v → f_X9_in (v &&& (255 : Int32)) (nI a) (nI b) = some (1 : Int32)) ∧ (¬ inR a b v → f_X9_in (v &&& (255 : Int32)) (nI a) (nI b) = some (0 : Int32)) := by
  unfold f_X9_in inR
  have e := by_and h
  obtain ⟨h1, h2⟩ := h
  constructor
  · intro q
    rw [if_pos (by omega)] at e
    rw [if_neg (by rw [ltI, e, tI (by omega)]; omega), if_neg (by rw [ltI, e, tI (by omega)]; omega)]
  · intro q
    by_cases g : v.toInt < a
    · by_cases g0 : 0 ≤ v.toInt
      · rw [if_pos g0] at e
        rw [if_pos (by rw [ltI, e, tI (by omega)]; omega)]
      · rw [if_neg g0] at e
        rw [if_neg (by rw [ltI, e, tI (by omega)]; omega), if_pos (by rw [ltI, e, tI (by omega)]; omega)]
    · rw [if_pos (by omega)] at e
      rw [if_neg (by rw [ltI, e, tI (by omega)]; omega), if_pos (by rw [ltI, e, tI (by omega)]; omega)]
theorem m1_in {a b : Nat} (ha : a < 128) : f_X9_in m1 (nI a) (nI b) = some (0 : Int32) := by
  unfold f_X9_in
  rw [if_pos (by rw [ltI, tI (by omega)]; have h2 : m1.toInt = -1 := rfl; omega)]
theorem byte_end {s : MoT} {n p : Nat} (hz : Mo_size s = nI n) (hp : n ≤ p) (hp2 : p < 2147483648) : f_X9_byteAt s (nI p) = some m1 := by
  unfold f_X9_byteAt
  rw [hz]
  exact if_pos (nI_le hp hp2)
theorem byte_at {s : MoT} {n p : Nat} (hz : Mo_size s = nI n) (hp : p < n) (hn : n ≤ 900) : f_X9_byteAt s (nI p) = some (Mo_tape s p &&& (255 : Int32)) := by
  unfold f_X9_byteAt
  rw [hz, ixN (by omega)]
  exact (if_neg (nI_ge hp (by omega))).trans (if_pos (inbN (by omega) (by omega)))
/-! words made letter by letter -/
theorem shl64 (b : Int64) (k n : Nat) (hk : (b.toBitVec.smod 64).toNat = k) (hn : n * 2 ^ k < 18446744073709551616) : wN n <<< b = wN (n * 2 ^ k) := by
  apply Int64.toBitVec_inj.mp
  rw [Int64.toBitVec_shiftLeft]
  show (BitVec.ofNat 64 n) <<< (b.toBitVec.smod 64) = BitVec.ofNat 64 (n * 2 ^ k)
  apply BitVec.eq_of_toNat_eq
  have hk0 : 0 < 2 ^ k := Nat.two_pow_pos k
  have hn2 : n < 18446744073709551616 := Nat.lt_of_le_of_lt (Nat.le_mul_of_pos_right n hk0) hn
  rw [BitVec.shiftLeft_eq', hk, BitVec.toNat_shiftLeft, BitVec.toNat_ofNat, BitVec.toNat_ofNat, Nat.mod_eq_of_lt hn2, Nat.shiftLeft_eq]
theorem or64 (a b : Nat) (ha : a < 18446744073709551616) (hb : b < 18446744073709551616) : wN a ||| wN b = wN (a ||| b) := by
  apply Int64.toBitVec_inj.mp
  rw [Int64.toBitVec_or]
  show BitVec.ofNat 64 a ||| BitVec.ofNat 64 b = BitVec.ofNat 64 (a ||| b)
  apply BitVec.eq_of_toNat_eq
  have h : a ||| b < 2 ^ 64 := Nat.or_lt_two_pow ha hb
  rw [BitVec.toNat_or, BitVec.toNat_ofNat, BitVec.toNat_ofNat, BitVec.toNat_ofNat, Nat.mod_eq_of_lt ha, Nat.mod_eq_of_lt hb, Nat.mod_eq_of_lt h]
theorem n64 {c : Nat} (hc : c < 256) : (nI c).toInt64 = wN c := by
  revert c
  decide +kernel
/-- one more letter, the first highest -/
theorem be_s {m c : Nat} (hm : m < 4294967296) (hc : c < 256) : (wN m <<< ((8 : Int32).toInt64 &&& 63)) ||| (nI c).toInt64 = wN (256 * m + c) := by
  rw [n64 hc, shl64 _ 8 m (by decide) (by omega), or64 _ _ (by omega) (by omega)]
  refine congrArg wN ?_
  have e := Nat.shiftLeft_add_eq_or_of_lt (i := 8) (b := c) (by omega) m
  rw [Nat.shiftLeft_eq] at e
  omega
theorem le_s1 {m c k : Nat} (b : Int64) (hk : (b.toBitVec.smod 64).toNat = k) (hk2 : k ≤ 32) (hm : m < 2 ^ k) (hc : c < 256) : wN m ||| ((nI c).toInt64 <<< b) = wN (m + c * 2 ^ k) := by
  have h1 : 2 ^ k ≤ 2 ^ 32 := Nat.pow_le_pow_right (by omega) hk2
  have h2 : c * 2 ^ k ≤ 256 * 2 ^ 32 := Nat.mul_le_mul (by omega) h1
  rw [n64 hc, shl64 _ k c hk (by omega), or64 _ _ (by omega) (by omega)]
  refine congrArg wN ?_
  have e := Nat.shiftLeft_add_eq_or_of_lt (i := k) (b := m) hm c
  rw [Nat.shiftLeft_eq] at e
  rw [Nat.or_comm, ← e, Nat.add_comm]
/-- one more letter, the first lowest -/
theorem le_s2 {m c : Nat} : ∀ i, i ≤ 4 → m < 256 ^ i → c < 256 → wN m ||| ((nI c).toInt64 <<< (((8 : Int32) * nI i).toInt64 &&& 63)) = wN (m + c * 256 ^ i)
  | 0, _, hm, hc => le_s1 (k := 0) _ (by decide) (by omega) hm hc
  | 1, _, hm, hc => le_s1 (k := 8) _ (by decide) (by omega) hm hc
  | 2, _, hm, hc => le_s1 (k := 16) _ (by decide) (by omega) hm hc
  | 3, _, hm, hc => le_s1 (k := 24) _ (by decide) (by omega) hm hc
  | 4, _, hm, hc => le_s1 (k := 32) _ (by decide) (by omega) hm hc
  | j + 5, h, _, _ => absurd h (by omega)
theorem le_app : ∀ (l : List Nat) (c : Nat), le5 (l ++ [c]) = le5 l + c * 256 ^ l.length
  | [], c => by
    show c + 256 * 0 = 0 + c * 256 ^ 0
    omega
  | a :: t, c => by
    show a + 256 * le5 (t ++ [c]) = a + 256 * le5 t + c * 256 ^ (t.length + 1)
    rw [le_app t c, Nat.pow_succ, Nat.mul_add, ← Nat.mul_assoc c, Nat.mul_comm 256 (c * _), Nat.add_assoc]
theorem be_app (l : List Nat) (c : Nat) : be5 (l ++ [c]) = 256 * be5 l + c := by
  unfold be5
  rw [List.foldl_append]
  rfl
theorem le_inj : ∀ (l m : List Nat), (∀ a ∈ l, 0 < a ∧ a < 256) → (∀ a ∈ m, 0 < a ∧ a < 256) → le5 l = le5 m → l = m
  | [], [], _, _, _ => rfl
  | [], b :: u, _, h2, e => by
    have := h2 b (List.mem_cons_self ..)
    have e : 0 = b + 256 * le5 u := e
    omega
  | a :: t, [], h1, _, e => by
    have := h1 a (List.mem_cons_self ..)
    have e : a + 256 * le5 t = 0 := e
    omega
  | a :: t, b :: u, h1, h2, e => by
    have p := h1 a (List.mem_cons_self ..)
    have q := h2 b (List.mem_cons_self ..)
    have e : a + 256 * le5 t = b + 256 * le5 u := e
    have e1 : a = b := by omega
    rw [e1, le_inj t u (fun x hx => h1 x (List.mem_cons_of_mem _ hx)) (fun x hx => h2 x (List.mem_cons_of_mem _ hx)) (by omega)]
theorem wN_inj {a b : Nat} (ha : a < 18446744073709551616) (hb : b < 18446744073709551616) (e : wN a = wN b) : a = b := by
  have e2 : (BitVec.ofNat 64 a).toNat = (BitVec.ofNat 64 b).toNat := congrArg (fun z : Int64 => z.toBitVec.toNat) e
  rwa [BitVec.toNat_ofNat, BitVec.toNat_ofNat, Nat.mod_eq_of_lt ha, Nat.mod_eq_of_lt hb] at e2
theorem WR.eq {c r c' r' : Int64} (h : WR c r) (h' : WR c' r') : (c = c') ↔ (r = r') := by
  obtain ⟨l, h1, h2, h3⟩ := h
  obtain ⟨m, k1, k2, k3⟩ := h'
  have p1 := le_small h1
  have p2 := le_small k1
  have p3 := le_small h1.rev
  have p4 := le_small k1.rev
  rw [h2, h3, k2, k3, be_r, be_r]
  have g1 : ∀ a ∈ l, 0 < a ∧ a < 256 := fun a ha => by have := h1.2.2 a ha; omega
  have g2 : ∀ a ∈ m, 0 < a ∧ a < 256 := fun a ha => by have := k1.2.2 a ha; omega
  constructor
  · intro e
    rw [le_inj l m g1 g2 (wN_inj (by omega) (by omega) e)]
  · intro e
    have e2 := le_inj l.reverse m.reverse (fun a ha => g1 a (List.mem_reverse.mp ha)) (fun a ha => g2 a (List.mem_reverse.mp ha)) (wN_inj (by omega) (by omega) e)
    rw [List.reverse_inj.mp e2]
theorem lgc (a b : Int64) : (lg_cmp a b = 0) = (a = b) := by
  unfold lg_cmp
  by_cases e : a = b
  · subst e
    rw [if_neg (Int64.lt_irrefl), if_pos rfl]
    exact propext ⟨fun _ => rfl, fun _ => rfl⟩
  · rw [if_neg e]
    refine propext ⟨fun h => ?_, fun h => absurd h e⟩
    split at h
    · exact absurd h (by decide)
    · exact absurd h (by decide)
theorem ifa {P Q : Prop} {i : Decidable P} {j : Decidable Q} {k : Decidable (P ∧ Q)} : @ite (Option Int32) P i (@ite (Option Int32) Q j (some 1) (some 0)) (some 0) = some (@ite Int32 (P ∧ Q) k 1 0) := by
  by_cases e : P
  · by_cases e2 : Q
    · rw [if_pos e, if_pos e2, if_pos ⟨e, e2⟩]
    · rw [if_pos e, if_neg e2, if_neg (fun c => e2 c.2)]
  · rw [if_neg e, if_neg (fun c => e c.1)]
/-! the words of the language -/
theorem iw (i : Nat) (l : List Nat) (K : Int64 → Option Int32) (hl : l.length ≤ 5) (h1 : f_J0_length_8abf5 i = some (nI l.length)) (h2 : ∀ j, j < l.length → f_J0_charAt_5068e i (nI j) = some (nI (l.getD j 0)) ∧ l.getD j 0 < 256) : f_X9_isWord_L5_7 i K 10000 (0 : Int64) (0 : Int32) = K (wN (be5 l)) := by
  have hb : ∀ j, j ≤ 5 → be5 (l.take j) < 256 ^ j := fun j hj => by
    rw [be_r]
    have g := le_lt (l.take j).reverse (fun a ha => by
      have ha := List.mem_reverse.mp ha
      have ha := List.mem_of_mem_take ha
      obtain ⟨j, hj, e⟩ := List.mem_iff_getElem.mp ha
      have := (h2 j hj).2
      rw [List.getD_eq_getElem?_getD, List.getElem?_eq_getElem hj] at this
      rw [← e]
      exact this)
    rw [List.length_reverse, List.length_take] at g
    exact Nat.lt_of_lt_of_le g (Nat.pow_le_pow_right (by omega) (Nat.min_le_left ..))
  rw [li_0]
  refine (lpc (L := fun n i' s => f_X9_isWord_L5_7 i K n s i') (K := K) l.length (fun j => wN (be5 (l.take j))) ?_ ?_ (fuel := 10000) (by omega)).trans (by rw [List.take_length])
  · intro n
    show f_X9_isWord_L5_7 i K (n + 1) _ _ = _
    rw [f_X9_isWord_L5_7]
    exact eb h1 (if_pos (nI_le (Nat.le_refl _) (by omega)))
  · intro n j hj
    show f_X9_isWord_L5_7 i K (n + 1) _ _ = f_X9_isWord_L5_7 i K n _ _
    rw [f_X9_isWord_L5_7]
    refine eb h1 ((if_neg (nI_ge hj (by omega))).trans (eb (h2 j hj).1 ?_))
    have g := hb j (by omega)
    have g2 : 256 ^ j ≤ 256 ^ 4 := Nat.pow_le_pow_right (by omega) (by omega)
    rw [be_s (by omega) (h2 j hj).2, nI_1, ← be_app]
    have e : l.take (j + 1) = l.take j ++ [l.getD j 0] := by
      rw [List.take_add_one, List.getD_eq_getElem?_getD, List.getElem?_eq_getElem hj]
      rfl
    rw [e]
def wd_ (i : Nat) : List Nat := [[100, 101, 115, 107], [105, 110, 110, 101, 114], [108, 101, 102, 116], [114, 105, 103, 104, 116], [102, 117, 108, 108], [107, 101, 101, 112], [108, 97, 116, 101], [112, 117, 116], [98, 97, 99, 107], [116, 105, 99, 107], [98, 121], [97, 116]].getD i []
theorem wd_ok : ∀ i, i < 12 → (0 < (wd_ i).length ∧ (wd_ i).length ≤ 5 ∧ f_J0_length_8abf5 i = some (nI (wd_ i).length) ∧ ∀ j, j < (wd_ i).length → f_J0_charAt_5068e i (nI j) = some (nI ((wd_ i).getD j 0)) ∧ 97 ≤ (wd_ i).getD j 0 ∧ (wd_ i).getD j 0 ≤ 122) := by decide +kernel
theorem wd_w {i : Nat} (h : i < 12) : wOK (wd_ i) := by
  obtain ⟨h1, h2, _, h4⟩ := wd_ok i h
  refine ⟨h1, h2, fun a ha => ?_⟩
  obtain ⟨j, hj, e⟩ := List.mem_iff_getElem.mp ha
  have := (h4 j hj).2
  rw [List.getD_eq_getElem?_getD, List.getElem?_eq_getElem hj] at this
  rw [← e]
  exact this
theorem r_isWord (s : MoT) {i : Nat} (h : i < 12) : f_X9_isWord s i = some (if Mo_token s = nI 2 ∧ Mo_word s = wN (be5 (wd_ i)) then 1 else 0) := by
  obtain ⟨h1, h2, h3, h4⟩ := wd_ok i h
  unfold f_X9_isWord
  rw [glE, iw i (wd_ i) _ h2 h3 (fun j hj => ⟨(h4 j hj).1, by have := (h4 j hj).2; omega⟩)]
  simp only [lgc]
  exact ifa
theorem c_says (tp : TpT) (v : Int64) : f_X6_says tp v = some (if Tp_kind tp = nI 1 ∧ Tp_word tp = v then 1 else 0) := by
  unfold f_X6_says
  simp only [lgc]
  exact ifa
/-- a token on both sides -/
def TK (kd tk : Int32) (cw rw : Int64) (ch rh : Int32) : Prop := (kd = nI 0 ∧ tk = nI 1) ∨ (kd = nI 1 ∧ tk = nI 2 ∧ WR cw rw) ∨ (kd = nI 2 ∧ tk = nI 3 ∧ ∃ m, m ≤ 9999 ∧ ch = nI m ∧ rh = nI m) ∨ (kd = nI 3 ∧ tk = nI 4) ∨ (kd = nI 4 ∧ tk = nI 0)
theorem TK.says {kd tk : Int32} {cw rw : Int64} {ch rh : Int32} (h : TK kd tk cw rw ch rh) {l : List Nat} (hl : wOK l) : (kd = nI 1 ∧ cw = wN (le5 l)) ↔ (tk = nI 2 ∧ rw = wN (be5 l)) := by
  rcases h with ⟨h1, h2⟩ | ⟨h1, h2, h3⟩ | ⟨h1, h2, _⟩ | ⟨h1, h2⟩ | ⟨h1, h2⟩
  · rw [h1, h2]
    exact ⟨fun c => absurd c.1 (by decide), fun c => absurd c.1 (by decide)⟩
  · have := h3.eq ⟨l, hl, rfl, rfl⟩
    exact ⟨fun c => ⟨h2, this.mp c.2⟩, fun c => ⟨h1, this.mpr c.2⟩⟩
  · rw [h1, h2]
    exact ⟨fun c => absurd c.1 (by decide), fun c => absurd c.1 (by decide)⟩
  · rw [h1, h2]
    exact ⟨fun c => absurd c.1 (by decide), fun c => absurd c.1 (by decide)⟩
  · rw [h1, h2]
    exact ⟨fun c => absurd c.1 (by decide), fun c => absurd c.1 (by decide)⟩
/-- a word asked for on both sides -/
theorem say2 (tp : TpT) (s : MoT) {i : Nat} (hi : i < 12) {v : Int64} (hv : v = wN (le5 (wd_ i))) (h : TK (Tp_kind tp) (Mo_token s) (Tp_word tp) (Mo_word s) (Tp_whole tp) (Mo_number s)) : (f_X6_says tp v = some 1 ∧ f_X9_isWord s i = some 1 ∧ Tp_kind tp = nI 1) ∨ (f_X6_says tp v = some 0 ∧ f_X9_isWord s i = some 0) := by
  have e := h.says (wd_w hi)
  rw [c_says, r_isWord s hi, hv]
  by_cases q : Tp_kind tp = nI 1 ∧ Tp_word tp = wN (le5 (wd_ i))
  · rw [if_pos q, if_pos (e.mp q)]
    exact Or.inl ⟨rfl, rfl, q.1⟩
  · rw [if_neg q, if_neg (fun c => q (e.mpr c))]
    exact Or.inr ⟨rfl, rfl⟩
/-- the longest run of P -/
theorem runE (P : Nat → Prop) (n : Nat) : ∀ d p, p ≤ n → n - p ≤ d → ∃ p', p ≤ p' ∧ p' ≤ n ∧ (∀ j, p ≤ j → j < p' → P j) ∧ (p' < n → ¬ P p')
  | 0, p, h1, h2 => ⟨p, Nat.le_refl _, h1, fun j a b => absurd b (by omega), fun a => absurd a (by omega)⟩
  | d + 1, p, h1, h2 => by
    by_cases q : p < n ∧ P p
    · obtain ⟨p', a1, a2, a3, a4⟩ := runE P n d (p + 1) (by omega) (by omega)
      refine ⟨p', by omega, a2, fun j b1 b2 => ?_, a4⟩
      by_cases e : j = p
      · subst e; exact q.2
      · exact a3 j (by omega) b2
    · exact ⟨p, Nat.le_refl _, h1, fun j a b => absurd b (by omega), fun a c => q ⟨a, c⟩⟩
theorem runL {A : Type} (L : Nat → Nat → A) (R : A) {p p' : Nat} (hs : ∀ f j, p ≤ j → j < p' → L (f + 1) j = L f (j + 1)) (he : ∀ f, L (f + 1) p' = R) : ∀ f j, p ≤ j → j ≤ p' → p' - j < f → L f j = R
  | 0, _, _, _, h => absurd h (Nat.not_lt_zero _)
  | f + 1, j, h1, h2, h3 => by
    by_cases e : j = p'
    · subst e; exact he f
    · rw [hs f j h1 (by omega)]
      exact runL L R hs he f (j + 1) (by omega) (by omega) (by omega)
