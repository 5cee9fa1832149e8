/-! ===== a method's walk: from its entry to cuts, from cut to cut ===== -/
/-- one step of the program, behind it k -/
def zz_1 (tF : Nat → Nat → FieldType) (RC RS : Nat) (gr : Option Nat) (rt : Option FieldType) (cl : Nat → Nat → Option zz_Y) (sw : Nat → List (Int32 × Nat)) (pg : Nat → Option zz_I) (th : Nat → Option String) (ret : Option Value → List va_E → Nat → Nat → Prop) (xx : Nat → String → List (Option Value) → List va_E → Nat → Nat → Prop)
    (k : zz_K) (pc : Nat) (ls : List (Option Value)) (st : List Value) (ws : List va_E) (nc ns : Nat) : Prop :=
  match th pc with
  | some E => match st with
    | [] => (nc + 1 ≤ RC ∧ ns + 6 ≤ RS) ∧ xx pc E ls ws (nc + 1) (ns + 6)
    | _ => False
  | none => match pg pc with
    | some (i, v, w, a, b) => zz_i tF RC RS gr rt cl sw k ret xx pc ls st ws nc ns i v w a b
    | none => False
abbrev zz_Q : Type := List (Option Value) → List Value → List va_E → Nat → Nat → Prop
/-- n steps at most, up to a cut -/
def zz_w (tF : Nat → Nat → FieldType) (RC RS : Nat) (gr : Option Nat) (rt : Option FieldType) (cl : Nat → Nat → Option zz_Y) (sw : Nat → List (Int32 × Nat)) (pg : Nat → Option zz_I) (th : Nat → Option String) (ret : Option Value → List va_E → Nat → Nat → Prop) (xx : Nat → String → List (Option Value) → List va_E → Nat → Nat → Prop)
    (cut : Nat → Option (List Bool × zz_Q)) : Nat → zz_K
  | 0 => fun _ _ _ _ _ _ => False
  | n + 1 => fun pc ls st ws nc ns => match cut pc with
    | some (bm, I) => I (zz_mask bm ls) st ws nc ns
    | none => zz_1 tF RC RS gr rt cl sw pg th ret xx (zz_w tF RC RS gr rt cl sw pg th ret xx cut n) pc ls st ws nc ns
/-- cuts with ranks; below a rank, or at any -/
def zz_ct (cut : Nat → Option (List Bool × (Nat → zz_Q))) (N : Option Nat) : Nat → Option (List Bool × zz_Q) := fun pc => match cut pc with
  | some (bm, I) => some (bm, fun ls st ws nc ns => ∃ n, (match N with | some b => n < b | none => True) ∧ I n ls st ws nc ns)
  | none => none
section ZW
variable {CL : List vw_C} {p : Program} {l : Launch} {e : Env} {R : Room} {s : State} {m : MethodId} {args : Array Value} {below : List Frame} {meth : Method} {c : Code} {Q : State → Prop} {D : va_G} {cT : Nat → ClassId} {A : Nat → Prop} {nL : Nat} {ag : (Nat → Nat) → Prop}
variable {BIG : List Cond} {tF : Nat → Nat → FieldType} {HOST own : String} {cc : ByteArray} {ini : Bool} {gr : Option Nat} {rt : Option FieldType} {cl : Nat → Nat → Option zz_Y} {sw : Nat → List (Int32 × Nat)} {pg : Nat → Option zz_I} {th : Nat → Option String}
variable {ret : Option Value → List va_E → Nat → Nat → Prop} {xx : Nat → String → List (Option Value) → List va_E → Nat → Nat → Prop}
/-- all that a walk rests on -/
def zz_F (CL : List vw_C) (p : Program) (l : Launch) (e : Env) (R : Room) (s : State) (m : MethodId) (args : Array Value) (below : List Frame) (meth : Method) (c : Code) (Q : State → Prop) (D : va_G) (cT : Nat → ClassId) (A : Nat → Prop) (nL : Nat) (ag : (Nat → Nat) → Prop)
    (BIG : List Cond) (tF : Nat → Nat → FieldType) (HOST own : String) (cc : ByteArray) (ini : Bool) (gr : Option Nat) (rt : Option FieldType) (cl : Nat → Nat → Option zz_Y) (sw : Nat → List (Int32 × Nat)) (pg : Nat → Option zz_I) (th : Nat → Option String)
    (ret : Option Value → List va_E → Nat → Nat → Prop) (xx : Nat → String → List (Option Value) → List va_E → Nat → Nat → Prop) : Prop :=
  zz_X CL p R s m args meth c D cT A nL BIG tF own cc ini ∧ (∀ (n : Nat) (ad ad1 : Nat → Nat), zz_gr gr n = true → (∀ j, j < n → ad1 j = ad j) → ag ad → ag ad1) ∧
  (∀ (idx : Nat) (y : zz_Y), (cl 0 idx = some y → zz_Cl CL p l e R s m args below meth c Q D cT A nL cc (.invokevirtual idx) y) ∧ (cl 1 idx = some y → zz_Cl CL p l e R s m args below meth c Q D cT A nL cc (.invokestatic idx) y) ∧ (cl 2 idx = some y → zz_Cl CL p l e R s m args below meth c Q D cT A nL cc (.invokespecial idx) y)) ∧
  zz_RI CL p l e R s m args below meth c Q D cT A ag cc rt ret ∧
  (∀ pc E ls ws nc ns, xx pc E ls ws nc ns → zz_H CL p l e R s m args below meth c Q D cT A nL ag pc E ls ws nc ns) ∧
  (∀ (pc : Nat) (i : Instr) (v : Int32) (w : Int64) (a b : Nat), pg pc = some (i, v, w, a, b) → zz_ok CL BIG HOST own cc nL ini sw pc i v w a b = true) ∧
  ∀ (pc : Nat) (E : String) (ls : List (Option Value)) (ws : List va_E) (nc ns : Nat), th pc = some E → (nc + 1 ≤ R.cells ∧ ns + 6 ≤ R.slots) ∧ xx pc E ls ws (nc + 1) (ns + 6) → zz_G CL p l e R s m args below meth c Q D cT A nL ag pc ls [] ws nc ns
theorem zz_F.one (F : zz_F CL p l e R s m args below meth c Q D cT A nL ag BIG tF HOST own cc ini gr rt cl sw pg th ret xx) {k : zz_K}
    (hk : ∀ pc ls st ws nc ns, k pc ls st ws nc ns → zz_G CL p l e R s m args below meth c Q D cT A nL ag pc ls st ws nc ns) {pc : Nat} {ls : List (Option Value)} {st : List Value} {ws : List va_E} {nc ns : Nat}
    (h : zz_1 tF R.cells R.slots gr rt cl sw pg th ret xx k pc ls st ws nc ns) : zz_G CL p l e R s m args below meth c Q D cT A nL ag pc ls st ws nc ns := by
  obtain ⟨hX, hgr, hcl, hret, hxx, hpg, hth⟩ := F
  unfold zz_1 at h
  split at h
  · next E hE =>
    split at h
    · exact hth pc E ls ws nc ns hE h
    · exact h.elim
  · split at h
    · next i v w a b hp => exact zz_step hX hgr hcl hret hxx (hpg _ _ _ _ _ _ hp) hk h
    · exact h.elim
theorem zz_F.run (F : zz_F CL p l e R s m args below meth c Q D cT A nL ag BIG tF HOST own cc ini gr rt cl sw pg th ret xx) {cut : Nat → Option (List Bool × zz_Q)}
    (hcut : ∀ pc bm I, cut pc = some (bm, I) → bm.length = nL ∧ ∀ ls st ws nc ns, I ls st ws nc ns → zz_G CL p l e R s m args below meth c Q D cT A nL ag pc ls st ws nc ns) :
    ∀ (n pc : Nat) (ls : List (Option Value)) (st : List Value) (ws : List va_E) (nc ns : Nat), zz_w tF R.cells R.slots gr rt cl sw pg th ret xx cut n pc ls st ws nc ns → zz_G CL p l e R s m args below meth c Q D cT A nL ag pc ls st ws nc ns := by
  intro n
  induction n with
  | zero => exact fun _ _ _ _ _ _ h => False.elim h
  | succ n ih =>
    intro pc ls st ws nc ns h
    unfold zz_w at h
    split at h
    · next bm I hc =>
      obtain ⟨h1, h2⟩ := hcut pc bm I hc
      intro ad H locs lsA hag hP hD hS hL
      exact h2 _ _ _ _ _ h ad H locs lsA hag hP hD hS (hL.mask bm h1)
    · exact F.one ih h
/-- cuts with ranks: every walk from a cut comes to lower ranks -/
theorem zz_F.cuts (F : zz_F CL p l e R s m args below meth c Q D cT A nL ag BIG tF HOST own cc ini gr rt cl sw pg th ret xx) {cut : Nat → Option (List Bool × (Nat → zz_Q))} {fuel : Nat} (hlen : ∀ pc bm I, cut pc = some (bm, I) → bm.length = nL)
    (hb : ∀ pc bm I, cut pc = some (bm, I) → ∀ n ls st ws nc ns, I n ls st ws nc ns → zz_1 tF R.cells R.slots gr rt cl sw pg th ret xx (zz_w tF R.cells R.slots gr rt cl sw pg th ret xx (zz_ct cut (some n)) fuel) pc ls st ws nc ns) :
    ∀ (N n : Nat), n < N → ∀ pc bm I, cut pc = some (bm, I) → ∀ ls st ws nc ns, I n ls st ws nc ns → zz_G CL p l e R s m args below meth c Q D cT A nL ag pc ls st ws nc ns := by
  intro N
  induction N with
  | zero => exact fun n hn => absurd hn (Nat.not_lt_zero n)
  | succ N ih =>
    intro n hn pc bm I hc ls st ws nc ns hI
    refine F.one (F.run (fun pc1 bm1 I1 h1 => ?_) fuel) (hb pc bm I hc n ls st ws nc ns hI)
    unfold zz_ct at h1
    split at h1
    · next bm2 I2 h2 =>
      cases h1
      refine ⟨hlen _ _ _ h2, fun ls st ws nc ns h3 => ?_⟩
      obtain ⟨n1, hn1, h4⟩ := h3
      exact ih n1 (Nat.lt_of_lt_of_le hn1 (Nat.le_of_lt_succ hn)) _ _ _ h2 _ _ _ _ _ h4
    · cases h1
theorem zz_F.entry (F : zz_F CL p l e R s m args below meth c Q D cT A nL ag BIG tF HOST own cc ini gr rt cl sw pg th ret xx) {cut : Nat → Option (List Bool × (Nat → zz_Q))} {fuel : Nat} (hlen : ∀ pc bm I, cut pc = some (bm, I) → bm.length = nL)
    (hb : ∀ pc bm I, cut pc = some (bm, I) → ∀ n ls st ws nc ns, I n ls st ws nc ns → zz_1 tF R.cells R.slots gr rt cl sw pg th ret xx (zz_w tF R.cells R.slots gr rt cl sw pg th ret xx (zz_ct cut (some n)) fuel) pc ls st ws nc ns)
    {pc : Nat} {ls : List (Option Value)} {st : List Value} {ws : List va_E} {nc ns : Nat} (h0 : zz_w tF R.cells R.slots gr rt cl sw pg th ret xx (zz_ct cut none) fuel pc ls st ws nc ns) : zz_G CL p l e R s m args below meth c Q D cT A nL ag pc ls st ws nc ns := by
  refine F.run (fun pc1 bm1 I1 h1 => ?_) fuel _ _ _ _ _ _ h0
  unfold zz_ct at h1
  split at h1
  · next bm2 I2 h2 =>
    cases h1
    refine ⟨hlen _ _ _ h2, fun ls st ws nc ns h3 => ?_⟩
    obtain ⟨n1, -, h4⟩ := h3
    exact F.cuts hlen hb (n1 + 1) n1 (Nat.lt_succ_self _) _ _ _ h2 _ _ _ _ _ h4
  · cases h1
end ZW
