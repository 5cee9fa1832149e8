/-! ===== what the class's cells hold ===== -/
abbrev qA : Type := Nat → Int32
/-- a book: least, greatest, rest, longest, how many needs; how many rules; exact, number, skill, rank of needs; wanted, stand-in, first, last hour; how many substitutes -/
abbrev qB : Type := (qA × qA × qA × qA × qA) × Int32 × (qA × qA × qA × qA) × (qA × qA × qA × qA) × Int32
def gB (p : Nat) : qB → List va_E
  | ((le, ge, re, lo, nc), rc, (nx, nn, nk, nr), (wa, si, fh, lh), sc) =>
    [.inr (6, [.ref (p + 1), .ref (p + 2), .ref (p + 3), .ref (p + 4), .ref (p + 5), .int rc, .ref (p + 6), .ref (p + 7), .ref (p + 8), .ref (p + 9), .ref (p + 10), .ref (p + 11), .ref (p + 12), .ref (p + 13), .int sc]),
     .inl (0, 10, .inl le), .inl (0, 10, .inl ge), .inl (0, 10, .inl re), .inl (0, 10, .inl lo), .inl (0, 10, .inl nc),
     .inl (1, 60, .inl nx), .inl (0, 60, .inl nn), .inl (0, 60, .inl nk), .inl (0, 60, .inl nr),
     .inl (0, 10, .inl wa), .inl (0, 10, .inl si), .inl (0, 10, .inl fh), .inl (0, 10, .inl lh)]
/-- the people: rank, marks, from, before, until -/
abbrev qP : Type := qA × qA × qA × qA × qA
/-- the crews: kinds, sizes, members, how many crews a person is in -/
abbrev qW : Type := qA × qA × (Nat → Int64) × qA
/-- the group: who, what each has, how many -/
abbrev qG : Type := qA × qA × Int32
/-- all: the tape and its length; where the reader is; people; crews; group; the two books; which is which; where the text was wrong -/
abbrev qC : Type := (qA × Int32) × Int32 × qP × qW × qG × qB × qB × Bool × Int32
def gC : qC → List va_E
  | ((tb, tl), pa, (rk, mr, fr, bf, un), (kd, sz, mb, co), (wh, hd, gs), b1, b2, fl, wr) =>
    [.inr (0, [.ref 1, .ref 3, .ref 4, .ref 10, .ref 15, .ref (bif fl then 32 else 18), .ref (bif fl then 18 else 32), .int wr]),
     .inr (1, [.ref 2, .int tl]), .inl (0, 300, .inl tb),
     .inr (2, [.ref 1, .int pa]),
     .inr (3, [.ref 5, .ref 6, .ref 7, .ref 8, .ref 9]), .inl (0, 50, .inl rk), .inl (0, 50, .inl mr), .inl (0, 50, .inl fr), .inl (0, 50, .inl bf), .inl (0, 500, .inl un),
     .inr (4, [.ref 11, .ref 12, .ref 13, .ref 14]), .inl (0, 20, .inl kd), .inl (0, 20, .inl sz), .inl (2, 20, .inr (.inl mb)), .inl (0, 50, .inl co),
     .inr (5, [.ref 4, .ref 10, .ref 16, .ref 17, .int gs]), .inl (0, 50, .inl wh), .inl (0, 50, .inl hd)] ++ (gB 18 b1 ++ gB 32 b2)
def zz_rm (f lo c s : Nat) : Room := { frames := f, cells := c, slots := s, locals := lo }
/-- a walk without cuts -/
theorem zz_VC0 {tF : Nat → Nat → FieldType} {rm : Room} {rt : Option FieldType} {L : List (Nat × Nat × zz_Y)} {sw : Nat → List (Int32 × Nat)} {pg : Nat → Option zz_I} {th : Nat → Option String} {nL : Nat} {yy : zz_Y} (fuel : Nat)
    (h : ∀ (As : List Value) (ws : List va_E) (k : Option Value → List va_E → Prop) (x : String → List va_E → Prop), yy.2.2.2.2 As ws k x → (zz_sl As).length ≤ nL ∧
      zz_w tF rm.cells rm.slots (zz_g0 yy.2.1 ws.length) rt (zz_tab L) sw pg th (zz_rn yy.2.2.1 yy.2.2.2.1 k) (zz_xn yy.2.1 yy.2.2.1 yy.2.2.2.1 x) (zz_ct (fun _ => none) none) fuel 0 (zz_en nL As) [] ws 0 0) : zz_VC tF rm rt L sw pg th nL yy :=
  fun As ws k x hp => ⟨(h As ws k x hp).1, fun _ => none, fuel, fun _ _ _ h => (nomatch h), fun _ _ _ h => (nomatch h), (h As ws k x hp).2⟩
theorem zz_e0 {P : Prop} (h : P) : True ∧ ((0 ≤ 0 ∧ 0 ≤ 0) ∧ P) := ⟨trivial, ⟨Nat.le_refl 0, Nat.le_refl 0⟩, h⟩
/-- Tape.byteAt -/
def pt_Ta_byteAt : zz_PT := fun As ws k _ => ∃ (tb : qA) (n : Nat) (S : Int32 × qP × qW × qG × qB × qB × Bool × Int32) (R : List va_E) (i : Int32), n ≤ 300 ∧ As = [.ref 1, .int i] ∧ ws = gC ((tb, nI n), S) ++ R ∧ k (some (.int (if 0 ≤ i ∧ i < nI n then tb i.toNatClampNeg else -1))) ws
set_option maxHeartbeats 4000000 in
theorem m_Ta_byteAt (l : Launch) : zz_M zz_CL l y_Ta_byteAt (Cond.code y_Ta_byteAt c_Ta_byteAt 2 (some .int) :: zz_big) (zz_rm 1 20 0 0) (2, false, 0, 0, pt_Ta_byteAt) := by
  refine zz_M_of (HOST := "CrewRules") (L := []) (sw := sw_Ta_byteAt) (pg := pg_Ta_byteAt) (th := th_Ta_byteAt) (ini := false) (by decide +kernel) zz_static (fun h => nomatch h) (Nat.le_refl _) (Nat.le_refl _) ok_Ta_byteAt (fun q hq => absurd hq List.not_mem_nil) (fun pc E h => (nomatch h)) (zz_VC0 40 ?_)
  intro As ws k x hpt
  obtain ⟨tb, n, ⟨pa, ⟨rk, mr, fr, bf, un⟩, ⟨kd, sz, mb, co⟩, ⟨wh, hd, gs⟩, b1, b2, fl, wr⟩, R, i, hn, rfl, rfl, hk⟩ := hpt
  refine ⟨Nat.le_refl _, ?_⟩
  refine And.intro (fun (c1 : i < 0) => ?_) (fun (c1 : ¬ i < 0) => ?_)
  · rw [if_neg (fun q => by have := q.1; rw [Int32.le_iff_toInt_le] at this; rw [Int32.lt_iff_toInt_lt] at c1; omega)] at hk
    exact zz_e0 hk
  · refine And.intro (fun (c2 : nI n ≤ i) => ?_) (fun (c2 : ¬ nI n ≤ i) => ?_)
    · rw [if_neg (fun q => by have := q.2; rw [Int32.lt_iff_toInt_lt] at this; rw [Int32.le_iff_toInt_le] at c2; omega)] at hk
      exact zz_e0 hk
    · have c3 : 0 ≤ i ∧ i < nI n := ⟨by rw [Int32.le_iff_toInt_le]; rw [Int32.lt_iff_toInt_lt] at c1; omega, by rw [Int32.lt_iff_toInt_lt]; rw [Int32.le_iff_toInt_le] at c2; omega⟩
      rw [if_pos c3] at hk
      refine And.intro ?_ (zz_e0 hk)
      obtain ⟨j, hj, rfl⟩ := pk_mu c1 c2 (by omega)
      exact vp_in_nI (by omega) (by decide)
