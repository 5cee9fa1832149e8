/-! ===== what the class's cells hold ===== -/
abbrev qA : Type := Nat → Int32
/-- a book: least, greatest, rest, longest, how many needs; how many rules; exact, number, skill, rank of needs; wanted, stand-in, first, last hour; how many substitutes -/
abbrev qB : Type := (qA × qA × qA × qA × qA) × Int32 × (qA × qA × qA × qA) × (qA × qA × qA × qA) × Int32
def gB (p : Nat) : qB → List va_E
  | ((le, ge, re, lo, nc), rc, (nx, nn, nk, nr), (wa, si, fh, lh), sc) =>
    [.inr (6, [.ref (p + 1), .ref (p + 2), .ref (p + 3), .ref (p + 4), .ref (p + 5), .int rc, .ref (p + 6), .ref (p + 7), .ref (p + 8), .ref (p + 9), .ref (p + 10), .ref (p + 11), .ref (p + 12), .ref (p + 13), .int sc]),
     .inl (0, 10, .inl le), .inl (0, 10, .inl ge), .inl (0, 10, .inl re), .inl (0, 10, .inl lo), .inl (0, 10, .inl nc),
     .inl (1, 60, .inl nx), .inl (0, 60, .inl nn), .inl (0, 60, .inl nk), .inl (0, 60, .inl nr),
     .inl (0, 10, .inl wa), .inl (0, 10, .inl si), .inl (0, 10, .inl fh), .inl (0, 10, .inl lh)]
/-- the people: rank, marks, from, before, until -/
abbrev qP : Type := qA × qA × qA × qA × qA
/-- the crews: kinds, sizes, members, how many crews a person is in -/
abbrev qW : Type := qA × qA × (Nat → Int64) × qA
/-- the group: who, what each has, how many -/
abbrev qG : Type := qA × qA × Int32
/-- all: the tape and its length; where the reader is; people; crews; group; the book, the spare one; are they changed over; where the text was wrong -/
abbrev qC : Type := (qA × Int32) × Int32 × qP × qW × qG × qB × qB × Bool × Int32
/-- the places of the book and of the spare one -/
abbrev pB (fl : Bool) : Nat := bif fl then 32 else 18
abbrev pS (fl : Bool) : Nat := bif fl then 18 else 32
/-- the first eighteen cells; c0: the fields of the first -/
abbrev q18 : Type := (qA × Int32) × Int32 × qP × qW × qG
def g18 (c0 : List Value) : q18 → List va_E
  | ((tb, tl), pa, (rk, mr, fr, bf, un), (kd, sz, mb, co), (wh, hd, gs)) =>
    [.inr (0, c0),
     .inr (1, [.ref 2, .int tl]), .inl (0, 300, .inl tb),
     .inr (2, [.ref 1, .int pa]),
     .inr (3, [.ref 5, .ref 6, .ref 7, .ref 8, .ref 9]), .inl (0, 50, .inl rk), .inl (0, 50, .inl mr), .inl (0, 50, .inl fr), .inl (0, 50, .inl bf), .inl (0, 500, .inl un),
     .inr (4, [.ref 11, .ref 12, .ref 13, .ref 14]), .inl (0, 20, .inl kd), .inl (0, 20, .inl sz), .inl (2, 20, .inr (.inl mb)), .inl (0, 50, .inl co),
     .inr (5, [.ref 4, .ref 10, .ref 16, .ref 17, .int gs]), .inl (0, 50, .inl wh), .inl (0, 50, .inl hd)]
def gC : qC → List va_E
  | (tt, pa, pp, ww, gg, bk, sp, fl, wr) =>
    g18 [.ref 1, .ref 3, .ref 4, .ref 10, .ref 15, .ref (pB fl), .ref (pS fl), .int wr] (tt, pa, pp, ww, gg) ++ (bif fl then gB 18 sp ++ gB 32 bk else gB 18 bk ++ gB 32 sp)
/-- one book b among the cells: at 32, or at 18 -/
def zB (w : Bool) (c0 : List Value) (S : q18) (b1 : qB) (R : List va_E) (b : qB) : List va_E := bif w then g18 c0 S ++ (gB 18 b1 ++ (gB 32 b ++ R)) else g18 c0 S ++ (gB 18 b ++ R)
def zz_rm (f lo c s : Nat) : Room := { frames := f, cells := c, slots := s, locals := lo }
def zb (b : Bool) : Int32 := bif b then 1 else 0
/-- a walk without cuts -/
theorem zz_VC0 {tF : Nat → Nat → FieldType} {rm : Room} {rt : Option FieldType} {L : List (Nat × Nat × zz_Y)} {sw : Nat → List (Int32 × Nat)} {pg : Nat → Option zz_I} {th : Nat → Option String} {nL : Nat} {yy : zz_Y} (fuel : Nat)
    (h : ∀ (As : List Value) (ws : List va_E) (k : Option Value → List va_E → Prop) (x : String → List va_E → Prop), yy.2.2.2.2 As ws k x → (zz_sl As).length ≤ nL ∧
      zz_w tF rm.cells rm.slots (zz_g0 yy.2.1 ws.length) rt (zz_tab L) sw pg th (zz_rn yy.2.2.1 yy.2.2.2.1 k) (zz_xn yy.2.1 yy.2.2.1 yy.2.2.2.1 x) (zz_ct (fun _ => none) none) fuel 0 (zz_en nL As) [] ws 0 0) : zz_VC tF rm rt L sw pg th nL yy :=
  fun As ws k x hp => ⟨(h As ws k x hp).1, fun _ => none, fuel, fun _ _ _ h => (nomatch h), fun _ _ _ h => (nomatch h), (h As ws k x hp).2⟩
/-- one cut -/
def zz_c1 (hp : Nat) (bm : List Bool) (I : Nat → zz_Q) : Nat → Option (List Bool × (Nat → zz_Q)) := fun pc => bif Nat.beq pc hp then some (bm, I) else none
theorem zz_VC1 {tF : Nat → Nat → FieldType} {rm : Room} {rt : Option FieldType} {L : List (Nat × Nat × zz_Y)} {sw : Nat → List (Int32 × Nat)} {pg : Nat → Option zz_I} {th : Nat → Option String} {nL : Nat} {yy : zz_Y} (fuel hp : Nat) (bm : List Bool) (hbm : bm.length = nL)
    (h : ∀ (As : List Value) (ws : List va_E) (k : Option Value → List va_E → Prop) (x : String → List va_E → Prop), yy.2.2.2.2 As ws k x → (zz_sl As).length ≤ nL ∧ ∃ I : Nat → zz_Q,
      (∀ n ls st ws' nc ns, I n ls st ws' nc ns → zz_1 tF rm.cells rm.slots (zz_g0 yy.2.1 ws.length) rt (zz_tab L) sw pg th (zz_rn yy.2.2.1 yy.2.2.2.1 k) (zz_xn yy.2.1 yy.2.2.1 yy.2.2.2.1 x) (zz_w tF rm.cells rm.slots (zz_g0 yy.2.1 ws.length) rt (zz_tab L) sw pg th (zz_rn yy.2.2.1 yy.2.2.2.1 k) (zz_xn yy.2.1 yy.2.2.1 yy.2.2.2.1 x) (zz_ct (zz_c1 hp bm I) (some n)) fuel) hp ls st ws' nc ns) ∧
      zz_w tF rm.cells rm.slots (zz_g0 yy.2.1 ws.length) rt (zz_tab L) sw pg th (zz_rn yy.2.2.1 yy.2.2.2.1 k) (zz_xn yy.2.1 yy.2.2.1 yy.2.2.2.1 x) (zz_ct (zz_c1 hp bm I) none) fuel 0 (zz_en nL As) [] ws 0 0) : zz_VC tF rm rt L sw pg th nL yy := by
  intro As ws k x hp1
  obtain ⟨h1, I, h2, h3⟩ := h As ws k x hp1
  refine ⟨h1, zz_c1 hp bm I, fuel, fun pc bm1 I1 hc => ?_, fun pc bm1 I1 hc => ?_, h3⟩
  · unfold zz_c1 at hc
    cases hb : Nat.beq pc hp with
    | true => rw [hb] at hc; cases hc; exact hbm
    | false => rw [hb] at hc; cases hc
  · unfold zz_c1 at hc
    cases hb : Nat.beq pc hp with
    | true =>
      rw [hb] at hc
      have e1 := Nat.eq_of_beq_eq_true hb
      subst e1
      cases hc
      exact h2
    | false => rw [hb] at hc; cases hc
theorem zz_e0 {P : Prop} (h : P) : True ∧ ((0 ≤ 0 ∧ 0 ≤ 0) ∧ P) := ⟨trivial, ⟨Nat.le_refl 0, Nat.le_refl 0⟩, h⟩
theorem zz_ev0 {P : Prop} (h : P) : none = (none : Option FieldType) ∧ ((0 ≤ 0 ∧ 0 ≤ 0) ∧ P) := ⟨rfl, ⟨Nat.le_refl 0, Nat.le_refl 0⟩, h⟩
theorem zz_eb {P : Prop} {b : Bool} (h : P) : (zb b = 0 ∨ zb b = 1) ∧ ((0 ≤ 0 ∧ 0 ≤ 0) ∧ P) := ⟨by cases b; exact Or.inl rfl; exact Or.inr rfl, ⟨Nat.le_refl 0, Nat.le_refl 0⟩, h⟩
/-! small numbers -/
theorem zn_lt {x y : Int32} : x < y ↔ x.toInt < y.toInt := Int32.lt_iff_toInt_lt
theorem zn_le {x y : Int32} : x ≤ y ↔ x.toInt ≤ y.toInt := Int32.le_iff_toInt_le
theorem zn_eq {x y : Int32} : x = y ↔ x.toInt = y.toInt := Int32.toInt_inj.symm
theorem zn_in {i : Nat} {N : Nat} (h : i < N) (hN : N < 2 ^ 31) : vp_in (nI i) N := vp_in_nI h hN
