/-! pure side: walking options, loops, small numbers -/
def Ok {A : Type} (o : Option A) (P : A → Prop) : Prop := ∃ r, o = some r ∧ P r
theorem Ok.ret {A : Type} {a : A} {P : A → Prop} (h : P a) : Ok (some a) P := ⟨a, rfl, h⟩
theorem Ok.be {A B : Type} {o : Option A} {k : A → Option B} {a : A} {P : B → Prop} (h : o = some a) (h2 : Ok (k a) P) : Ok (o.bind k) P := by subst h; exact h2
theorem Ok.b {A B : Type} {o : Option A} {k : A → Option B} {Q : A → Prop} {P : B → Prop} (h : Ok o Q) (h2 : ∀ a, Q a → Ok (k a) P) : Ok (o.bind k) P := by
  obtain ⟨a, rfl, hq⟩ := h
  exact h2 a hq
theorem Ok.t {A : Type} {c : Prop} {i : Decidable c} {o1 o2 : Option A} {P : A → Prop} (hc : c) (h : Ok o1 P) : Ok (@ite _ c i o1 o2) P := by rw [if_pos hc]; exact h
theorem Ok.f {A : Type} {c : Prop} {i : Decidable c} {o1 o2 : Option A} {P : A → Prop} (hc : ¬ c) (h : Ok o2 P) : Ok (@ite _ c i o1 o2) P := by rw [if_neg hc]; exact h
theorem Ok.mono {A : Type} {o : Option A} {P Q : A → Prop} (h : Ok o P) (h2 : ∀ a, P a → Q a) : Ok o Q := by
  obtain ⟨a, e, hq⟩ := h
  exact ⟨a, e, h2 a hq⟩
def Ok2 {A B : Type} (o : Option A) (q : Option B) (P : A → B → Prop) : Prop := ∃ a b, o = some a ∧ q = some b ∧ P a b
theorem Ok2.ret {A B : Type} {a : A} {b : B} {P : A → B → Prop} (h : P a b) : Ok2 (some a) (some b) P := ⟨a, b, rfl, rfl, h⟩
theorem Ok2.bl {A B C : Type} {o : Option A} {k : A → Option B} {q : Option C} {a : A} {P : B → C → Prop} (h : o = some a) (h2 : Ok2 (k a) q P) : Ok2 (o.bind k) q P := by subst h; exact h2
theorem Ok2.br {A B C : Type} {q : Option A} {k : A → Option B} {o : Option C} {a : A} {P : C → B → Prop} (h : q = some a) (h2 : Ok2 o (k a) P) : Ok2 o (q.bind k) P := by subst h; exact h2
theorem Ok2.b {A B C D : Type} {o : Option A} {q : Option B} {k : A → Option C} {m : B → Option D} {Q : A → B → Prop} {P : C → D → Prop} (h : Ok2 o q Q) (h2 : ∀ a b, Q a b → Ok2 (k a) (m b) P) : Ok2 (o.bind k) (q.bind m) P := by
  obtain ⟨a, b, rfl, rfl, hq⟩ := h
  exact h2 a b hq
theorem Ok2.lt {A B : Type} {c : Prop} {i : Decidable c} {o1 o2 : Option A} {q : Option B} {P : A → B → Prop} (hc : c) (h : Ok2 o1 q P) : Ok2 (@ite _ c i o1 o2) q P := by rw [if_pos hc]; exact h
theorem Ok2.lf {A B : Type} {c : Prop} {i : Decidable c} {o1 o2 : Option A} {q : Option B} {P : A → B → Prop} (hc : ¬ c) (h : Ok2 o2 q P) : Ok2 (@ite _ c i o1 o2) q P := by rw [if_neg hc]; exact h
theorem Ok2.rt {A B : Type} {c : Prop} {i : Decidable c} {q1 q2 : Option B} {o : Option A} {P : A → B → Prop} (hc : c) (h : Ok2 o q1 P) : Ok2 o (@ite _ c i q1 q2) P := by rw [if_pos hc]; exact h
theorem Ok2.rf {A B : Type} {c : Prop} {i : Decidable c} {q1 q2 : Option B} {o : Option A} {P : A → B → Prop} (hc : ¬ c) (h : Ok2 o q2 P) : Ok2 o (@ite _ c i q1 q2) P := by rw [if_neg hc]; exact h
theorem Ok2.mono {A B : Type} {o : Option A} {q : Option B} {P Q : A → B → Prop} (h : Ok2 o q P) (h2 : ∀ a b, P a b → Q a b) : Ok2 o q Q := by
  obtain ⟨a, b, e, e2, hq⟩ := h
  exact ⟨a, b, e, e2, h2 a b hq⟩
theorem Ok2.of {A B : Type} {o : Option A} {q : Option B} {a : A} {P : A → B → Prop} (h : o = some a) (h2 : Ok q (P a)) : Ok2 o q P := by
  obtain ⟨b, e, hq⟩ := h2
  exact ⟨a, b, h, e, hq⟩
/-- a loop that counts up to N -/
theorem lp {S R : Type} {L : Nat → Int32 → S → Option R} (N : Nat) (Inv : Nat → S → Prop) (P : Option R → Prop)
    (hd : ∀ n s, Inv N s → P (L (n + 1) (nI N) s))
    (hs : ∀ n i s, i < N → Inv i s → P (L (n + 1) (nI i) s) ∨ ∃ s', Inv (i + 1) s' ∧ L (n + 1) (nI i) s = L n (nI (i + 1)) s') :
    ∀ (fuel i : Nat) (s : S), i ≤ N → N - i < fuel → Inv i s → P (L fuel (nI i) s)
  | 0, _, _, _, h, _ => absurd h (Nat.not_lt_zero _)
  | n + 1, i, s, hi, hf, hI => by
    by_cases e : i = N
    · subst e; exact hd n s hI
    · rcases hs n i s (by omega) hI with h | ⟨s', h1, h2⟩
      · exact h
      · rw [h2]; exact lp N Inv P hd hs n (i + 1) s' (by omega) (by omega) h1
/-- two loops that count up to N together -/
theorem lpp {S R T V : Type} {L : Nat → Int32 → S → Option R} {M : Nat → Int32 → T → Option V} (N : Nat) (Inv : Nat → S → T → Prop) (P : Option R → Option V → Prop)
    (hd : ∀ n k s t, Inv N s t → P (L (n + 1) (nI N) s) (M (k + 1) (nI N) t))
    (hs : ∀ n k i s t, i < N → Inv i s t → ∃ s' t', Inv (i + 1) s' t' ∧ L (n + 1) (nI i) s = L n (nI (i + 1)) s' ∧ M (k + 1) (nI i) t = M k (nI (i + 1)) t') :
    ∀ (f1 f2 i : Nat) (s : S) (t : T), i ≤ N → N - i < f1 → N - i < f2 → Inv i s t → P (L f1 (nI i) s) (M f2 (nI i) t)
  | 0, _, _, _, _, _, h, _, _ => absurd h (Nat.not_lt_zero _)
  | _ + 1, 0, _, _, _, _, _, h, _ => absurd h (Nat.not_lt_zero _)
  | n + 1, k + 1, i, s, t, hi, h1, h2, hI => by
    by_cases e : i = N
    · subst e; exact hd n k s t hI
    · obtain ⟨s', t', hI', e1, e2⟩ := hs n k i s t (by omega) hI
      rw [e1, e2]; exact lpp N Inv P hd hs n k (i + 1) s' t' (by omega) (by omega) (by omega) hI'
/-- a loop with a measure -/
theorem lpm {S R : Type} {L : Nat → S → Option R} (mu : S → Nat) (Inv : S → Prop) (P : Option R → Prop)
    (hs : ∀ n s, Inv s → P (L (n + 1) s) ∨ ∃ s', Inv s' ∧ mu s' < mu s ∧ L (n + 1) s = L n s') :
    ∀ (fuel : Nat) (s : S), mu s < fuel → Inv s → P (L fuel s)
  | 0, _, h, _ => absurd h (Nat.not_lt_zero _)
  | n + 1, s, hf, hI => by
    rcases hs n s hI with h | ⟨s', h1, h2, h3⟩
    · exact h
    · rw [h3]; exact lpm mu Inv P hs n s' (by omega) h1
/-- a loop as an iteration -/
def itr {S : Type} (f : Nat → S → S) (s : S) : Nat → S
  | 0 => s
  | n + 1 => f n (itr f s n)
theorem lpi {S R : Type} {L : Nat → Int32 → S → Option R} {K : S → Option R} (N : Nat) (f : Nat → S → S) (hd : ∀ n s, L (n + 1) (nI N) s = K s) (hs : ∀ n i s, i < N → L (n + 1) (nI i) s = L n (nI (i + 1)) (f i s)) (s : S) {fuel : Nat} (hf : N < fuel) : L fuel (nI 0) s = K (itr f s N) :=
  lp (L := L) N (fun i t => t = itr f s i) (fun o => o = K (itr f s N)) (fun n t h => by rw [hd, h]) (fun n i t hi h => Or.inr ⟨f i t, by rw [h]; rfl, hs n i t hi⟩) fuel 0 s (Nat.zero_le _) (by omega) rfl
/-- an equation by hand: no row of simp's that counts as seen through -/
theorem nr {A : Type} {a b : A} (h : a = b) : a = b := by cases h; rfl
theorem inbN {n N : Nat} (h : n < N) (hN : N < 2147483648) : inb (nI n) N := nI_in h hN
theorem inbI {A : Type} {n N : Nat} {o1 o2 : A} {i : Decidable (inb (nI n) N)} (h : n < N) (hN : N < 2147483648) : @ite A (inb (nI n) N) i o1 o2 = o1 := if_pos (inbN h hN)
theorem ixN {n : Nat} (h : n < 2147483648) : ix (nI n) = n := nI_clamp h
theorem leN {a b : Nat} (ha : a < 2147483648) (hb : b < 2147483648) : (nI a ≤ nI b) = (a ≤ b) := propext (nI_leI ha hb)
theorem ltN {a b : Nat} (ha : a < 2147483648) (hb : b < 2147483648) : (nI a < nI b) = (a < b) := propext (nI_ltI ha hb)
theorem eqN {a b : Nat} (ha : a < 2147483648) (hb : b < 2147483648) : (nI a = nI b) = (a = b) := propext (nI_eq ha hb)
theorem remN {a d : Nat} (ha : a < 2147483648) (h0 : 0 < d) (hd : d < 2147483648) : irem (nI a) (nI d) = nI (a % d) := pk_rem ha h0 hd
theorem divN {a d : Nat} (ha : a < 2147483648) (h0 : 0 < d) (hd : d < 2147483648) : nI a / nI d = nI (a / d) := pk_div ha h0 hd
theorem subN {a b : Nat} (h : b ≤ a) : nI a - nI b = nI (a - b) := pk_sub h
def m1 : Int32 := -1
def m2 : Int32 := -2
def mL : Int32 := -2147483648
theorem ng1 : -nI 1 = m1 := nr rfl
theorem ng2 : -nI 2 = m2 := nr rfl
theorem ngL : -nI 2147483648 = mL := nr rfl
theorem m1E {n : Nat} (h : n < 2147483648) : (nI n = m1) = False := by
  refine eq_false (fun e => ?_)
  have := congrArg Int32.toInt e
  rw [nI_toInt h] at this
  have h2 : m1.toInt = -1 := rfl
  omega
theorem m1E' {n : Nat} (h : n < 2147483648) : (m1 = nI n) = False := by
  rw [show (m1 = nI n) = (nI n = m1) from propext ⟨Eq.symm, Eq.symm⟩]
  exact m1E h
theorem m2E {n : Nat} (h : n < 2147483648) : (nI n = m2) = False := by
  refine eq_false (fun e => ?_)
  have := congrArg Int32.toInt e
  rw [nI_toInt h] at this
  have h2 : m2.toInt = -2 := rfl
  omega
theorem m1N {n : Nat} (h : n < 2147483648) : (m1 < nI n) = True := by
  refine eq_true ?_
  rw [Int32.lt_iff_toInt_lt, nI_toInt h]
  have h2 : m1.toInt = -1 := rfl
  omega
theorem m1M : (m1 = m1) = True := eq_self m1
theorem m12 : (m1 = m2) = False := eq_false (by decide)
theorem m21 : (m2 = m1) = False := eq_false (by decide)
def b2i (b : Bool) : Int32 := if b then 1 else 0
theorem b2iT : b2i true = nI 1 := nr rfl
theorem b2iF : b2i false = nI 0 := nr rfl
theorem bsm {A B : Type} (a : A) (k : A → Option B) : (some a).bind k = k a := nr rfl
theorem glE {S R : Type} (v : S) (k : S → R) : glt v k = k v := Eq.trans (rfl : glt v k = k v) rfl
theorem li_0 : (0 : Int32) = nI 0 := nr rfl
theorem li_1 : (1 : Int32) = nI 1 := nr rfl
theorem li_2 : (2 : Int32) = nI 2 := nr rfl
theorem li_3 : (3 : Int32) = nI 3 := nr rfl
theorem li_4 : (4 : Int32) = nI 4 := nr rfl
theorem li_5 : (5 : Int32) = nI 5 := nr rfl
theorem li_6 : (6 : Int32) = nI 6 := nr rfl
theorem li_7 : (7 : Int32) = nI 7 := nr rfl
theorem li_8 : (8 : Int32) = nI 8 := nr rfl
theorem li_9 : (9 : Int32) = nI 9 := nr rfl
theorem li_10 : (10 : Int32) = nI 10 := nr rfl
theorem li_11 : (11 : Int32) = nI 11 := nr rfl
theorem li_12 : (12 : Int32) = nI 12 := nr rfl
theorem li_13 : (13 : Int32) = nI 13 := nr rfl
theorem li_14 : (14 : Int32) = nI 14 := nr rfl
theorem li_15 : (15 : Int32) = nI 15 := nr rfl
theorem li_16 : (16 : Int32) = nI 16 := nr rfl
theorem li_20 : (20 : Int32) = nI 20 := nr rfl
theorem li_30 : (30 : Int32) = nI 30 := nr rfl
theorem li_31 : (31 : Int32) = nI 31 := nr rfl
theorem li_32 : (32 : Int32) = nI 32 := nr rfl
theorem li_40 : (40 : Int32) = nI 40 := nr rfl
theorem li_42 : (42 : Int32) = nI 42 := nr rfl
theorem li_45 : (45 : Int32) = nI 45 := nr rfl
theorem li_48 : (48 : Int32) = nI 48 := nr rfl
theorem li_57 : (57 : Int32) = nI 57 := nr rfl
theorem li_58 : (58 : Int32) = nI 58 := nr rfl
theorem li_59 : (59 : Int32) = nI 59 := nr rfl
theorem li_60 : (60 : Int32) = nI 60 := nr rfl
theorem li_64 : (64 : Int32) = nI 64 := nr rfl
theorem li_74 : (74 : Int32) = nI 74 := nr rfl
theorem li_75 : (75 : Int32) = nI 75 := nr rfl
theorem li_81 : (81 : Int32) = nI 81 := nr rfl
theorem li_97 : (97 : Int32) = nI 97 := nr rfl
theorem li_122 : (122 : Int32) = nI 122 := nr rfl
theorem li_124 : (124 : Int32) = nI 124 := nr rfl
theorem li_143 : (143 : Int32) = nI 143 := nr rfl
theorem li_151 : (151 : Int32) = nI 151 := nr rfl
theorem li_159 : (159 : Int32) = nI 159 := nr rfl
theorem li_167 : (167 : Int32) = nI 167 := nr rfl
theorem li_175 : (175 : Int32) = nI 175 := nr rfl
theorem li_200 : (200 : Int32) = nI 200 := nr rfl
theorem li_255 : (255 : Int32) = nI 255 := nr rfl
theorem li_648 : (648 : Int32) = nI 648 := nr rfl
theorem li_650 : (650 : Int32) = nI 650 := nr rfl
theorem li_823 : (823 : Int32) = nI 823 := nr rfl
theorem li_900 : (900 : Int32) = nI 900 := nr rfl
theorem li_999 : (999 : Int32) = nI 999 := nr rfl
theorem li_1123 : (1123 : Int32) = nI 1123 := nr rfl
theorem li_1298 : (1298 : Int32) = nI 1298 := nr rfl
theorem li_1363 : (1363 : Int32) = nI 1363 := nr rfl
theorem li_1379 : (1379 : Int32) = nI 1379 := nr rfl
theorem li_2592 : (2592 : Int32) = nI 2592 := nr rfl
theorem li_6571 : (6571 : Int32) = nI 6571 := nr rfl
theorem li_9999 : (9999 : Int32) = nI 9999 := nr rfl
theorem li_65536 : (65536 : Int32) = nI 65536 := nr rfl
theorem li_65537 : (65537 : Int32) = nI 65537 := nr rfl
/-! what is laid in a row: an array's cell by its number -/
theorem us {f : Nat → Int32} {k : Nat} {x : Int32} : upd f k x k = x := pk_us
theorem un {f : Nat → Int32} {k j : Nat} {x : Int32} (h : j ≠ k) : upd f k x j = f j := pk_un h
theorem uL {f : Nat → Int64} {k : Nat} {x : Int64} : vp_updL f k x k = x := pk_uLs
theorem uLn {f : Nat → Int64} {k j : Nat} {x : Int64} (h : j ≠ k) : vp_updL f k x j = f j := pk_uLn h
def anyB (p : Nat → Bool) : Nat → Bool
  | 0 => false
  | n + 1 => anyB p n || p n
theorem anyB_iff (p : Nat → Bool) : ∀ n, anyB p n = true ↔ ∃ v, v < n ∧ p v = true
  | 0 => ⟨fun h => Bool.noConfusion h, fun ⟨v, h, _⟩ => absurd h (Nat.not_lt_zero _)⟩
  | n + 1 => by
    rw [anyB, Bool.or_eq_true, anyB_iff p n]
    constructor
    · rintro (⟨v, h, e⟩ | e)
      · exact ⟨v, by omega, e⟩
      · exact ⟨n, by omega, e⟩
    · rintro ⟨v, h, e⟩
      by_cases q : v = n
      · subst q; exact Or.inr e
      · exact Or.inl ⟨v, by omega, e⟩
theorem anyB_f (p : Nat → Bool) (n : Nat) : anyB p n = false ↔ ∀ v, v < n → p v = false := by
  constructor
  · intro h v hv
    cases e : p v with
    | false => rfl
    | true => rw [(anyB_iff p n).mpr ⟨v, hv, e⟩] at h; cases h
  · intro h
    cases e : anyB p n with
    | false => rfl
    | true => obtain ⟨v, hv, e2⟩ := (anyB_iff p n).mp e; rw [h v hv] at e2; cases e2
theorem anyB_congr {p q : Nat → Bool} {n : Nat} (h : ∀ v, v < n → p v = q v) : anyB p n = anyB q n := by
  cases e : anyB q n with
  | false => exact (anyB_f p n).mpr (fun v hv => by rw [h v hv]; exact (anyB_f q n).mp e v hv)
  | true => obtain ⟨v, hv, e2⟩ := (anyB_iff q n).mp e; exact (anyB_iff p n).mpr ⟨v, hv, by rw [h v hv, e2]⟩
