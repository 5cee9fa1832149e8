/-! ===== the objects of the system, their fields, the words of the tables ===== -/
def F_Cr : u_T := fun k => match k with
  | 0 => ("CrewRules", "tape", "LCrewRules$Tape;", true)
  | 1 => ("CrewRules", "parser", "LCrewRules$Parser;", true)
  | 2 => ("CrewRules", "people", "LCrewRules$People;", true)
  | 3 => ("CrewRules", "crews", "LCrewRules$Crews;", true)
  | 4 => ("CrewRules", "group", "LCrewRules$Group;", true)
  | 5 => ("CrewRules", "book", "LCrewRules$RuleBook;", false)
  | 6 => ("CrewRules", "spare", "LCrewRules$RuleBook;", false)
  | _ => ("CrewRules", "wrongAt", "I", false)
def F_Ta : u_T := fun k => match k with
  | 0 => ("CrewRules$Tape", "bytes", "[I", true)
  | _ => ("CrewRules$Tape", "length", "I", false)
def F_Pa : u_T := fun k => match k with
  | 0 => ("CrewRules$Parser", "tape", "LCrewRules$Tape;", true)
  | _ => ("CrewRules$Parser", "at", "I", false)
def F_Pe : u_T := fun k => match k with
  | 0 => ("CrewRules$People", "rank", "[I", true)
  | 1 => ("CrewRules$People", "marks", "[I", true)
  | 2 => ("CrewRules$People", "from", "[I", true)
  | 3 => ("CrewRules$People", "before", "[I", true)
  | _ => ("CrewRules$People", "until", "[I", true)
def F_Cw : u_T := fun k => match k with
  | 0 => ("CrewRules$Crews", "kinds", "[I", true)
  | 1 => ("CrewRules$Crews", "sizes", "[I", true)
  | 2 => ("CrewRules$Crews", "members", "[J", true)
  | _ => ("CrewRules$Crews", "crewsOf", "[I", true)
def F_Gr : u_T := fun k => match k with
  | 0 => ("CrewRules$Group", "people", "LCrewRules$People;", true)
  | 1 => ("CrewRules$Group", "crews", "LCrewRules$Crews;", true)
  | 2 => ("CrewRules$Group", "who", "[I", true)
  | 3 => ("CrewRules$Group", "held", "[I", true)
  | _ => ("CrewRules$Group", "size", "I", false)
def F_Rb : u_T := fun k => match k with
  | 0 => ("CrewRules$RuleBook", "least", "[I", true)
  | 1 => ("CrewRules$RuleBook", "greatest", "[I", true)
  | 2 => ("CrewRules$RuleBook", "rest", "[I", true)
  | 3 => ("CrewRules$RuleBook", "longest", "[I", true)
  | 4 => ("CrewRules$RuleBook", "needCount", "[I", true)
  | 5 => ("CrewRules$RuleBook", "ruleCount", "I", false)
  | 6 => ("CrewRules$RuleBook", "needExact", "[Z", true)
  | 7 => ("CrewRules$RuleBook", "needNumber", "[I", true)
  | 8 => ("CrewRules$RuleBook", "needSkill", "[I", true)
  | 9 => ("CrewRules$RuleBook", "needRank", "[I", true)
  | 10 => ("CrewRules$RuleBook", "wanted", "[I", true)
  | 11 => ("CrewRules$RuleBook", "standIn", "[I", true)
  | 12 => ("CrewRules$RuleBook", "firstHour", "[I", true)
  | 13 => ("CrewRules$RuleBook", "lastHour", "[I", true)
  | _ => ("CrewRules$RuleBook", "substituteCount", "I", false)
def F_Mo : u_T := fun k => match k with
  | 0 => ("CrewRulesModel", "thrown", "I", false)
  | 1 => ("CrewRulesModel", "tape", "[I", true)
  | 2 => ("CrewRulesModel", "taped", "I", false)
  | 3 => ("CrewRulesModel", "length", "I", false)
  | 4 => ("CrewRulesModel", "at", "I", false)
  | 5 => ("CrewRulesModel", "wrong", "Z", false)
  | 6 => ("CrewRulesModel", "place", "I", false)
  | 7 => ("CrewRulesModel", "told", "[Z", true)
  | 8 => ("CrewRulesModel", "least", "[I", true)
  | 9 => ("CrewRulesModel", "greatest", "[I", true)
  | 10 => ("CrewRulesModel", "rest", "[I", true)
  | 11 => ("CrewRulesModel", "longest", "[I", true)
  | 12 => ("CrewRulesModel", "needs", "[I", true)
  | 13 => ("CrewRulesModel", "needCount", "[I", true)
  | 14 => ("CrewRulesModel", "needSkill", "[I", true)
  | 15 => ("CrewRulesModel", "needRank", "[I", true)
  | 16 => ("CrewRulesModel", "needExact", "[Z", true)
  | 17 => ("CrewRulesModel", "substitutes", "[I", true)
  | 18 => ("CrewRulesModel", "wanted", "[I", true)
  | 19 => ("CrewRulesModel", "other", "[I", true)
  | 20 => ("CrewRulesModel", "from", "[I", true)
  | 21 => ("CrewRulesModel", "to", "[I", true)
  | 22 => ("CrewRulesModel", "rank", "[I", true)
  | 23 => ("CrewRulesModel", "marks", "[I", true)
  | 24 => ("CrewRulesModel", "until", "[I", true)
  | 25 => ("CrewRulesModel", "begin", "[I", true)
  | 26 => ("CrewRulesModel", "before", "[I", true)
  | 27 => ("CrewRulesModel", "kind", "[I", true)
  | _ => ("CrewRulesModel", "in", "[Z", true)
abbrev zz_CL : List vw_C := [("CrewRules", F_Cr, 8), ("CrewRules$Tape", F_Ta, 2), ("CrewRules$Parser", F_Pa, 2), ("CrewRules$People", F_Pe, 5), ("CrewRules$Crews", F_Cw, 4), ("CrewRules$Group", F_Gr, 5), ("CrewRules$RuleBook", F_Rb, 15), ("CrewRulesModel", F_Mo, 29)]
def zz_tF : Nat → Nat → FieldType := fun c k => match c with
  | 0 => (match k with
    | 0 => .object "CrewRules$Tape"
    | 1 => .object "CrewRules$Parser"
    | 2 => .object "CrewRules$People"
    | 3 => .object "CrewRules$Crews"
    | 4 => .object "CrewRules$Group"
    | 5 => .object "CrewRules$RuleBook"
    | 6 => .object "CrewRules$RuleBook"
    | _ => .int)
  | 1 => (match k with
    | 0 => .array .int
    | _ => .int)
  | 2 => (match k with
    | 0 => .object "CrewRules$Tape"
    | _ => .int)
  | 3 => (match k with
    | 0 => .array .int
    | 1 => .array .int
    | 2 => .array .int
    | 3 => .array .int
    | _ => .array .int)
  | 4 => (match k with
    | 0 => .array .int
    | 1 => .array .int
    | 2 => .array .long
    | _ => .array .int)
  | 5 => (match k with
    | 0 => .object "CrewRules$People"
    | 1 => .object "CrewRules$Crews"
    | 2 => .array .int
    | 3 => .array .int
    | _ => .int)
  | 6 => (match k with
    | 0 => .array .int
    | 1 => .array .int
    | 2 => .array .int
    | 3 => .array .int
    | 4 => .array .int
    | 5 => .int
    | 6 => .array .boolean
    | 7 => .array .int
    | 8 => .array .int
    | 9 => .array .int
    | 10 => .array .int
    | 11 => .array .int
    | 12 => .array .int
    | 13 => .array .int
    | _ => .int)
  | _ => (match k with
    | 0 => .int
    | 1 => .array .int
    | 2 => .int
    | 3 => .int
    | 4 => .int
    | 5 => .boolean
    | 6 => .int
    | 7 => .array .boolean
    | 8 => .array .int
    | 9 => .array .int
    | 10 => .array .int
    | 11 => .array .int
    | 12 => .array .int
    | 13 => .array .int
    | 14 => .array .int
    | 15 => .array .int
    | 16 => .array .boolean
    | 17 => .array .int
    | 18 => .array .int
    | 19 => .array .int
    | 20 => .array .int
    | 21 => .array .int
    | 22 => .array .int
    | 23 => .array .int
    | 24 => .array .int
    | 25 => .array .int
    | 26 => .array .int
    | 27 => .array .int
    | _ => .array .boolean)
theorem zz_u_in {C : String} {T : u_T} {N : Nat} (h : (u_ws C T N).all (fun w => decide (w ∈ zz_al)) = true) : ∀ w ∈ u_ws C T N, w ∈ zz_al := fun w hw => of_decide_eq_true (List.all_eq_true.mp h w hw)
theorem zz_nm {T : u_T} {N : Nat} (h : (List.range N).all (fun a => (List.range N).all (fun b => decide (a = b) || decide ((T a).2.1 ≠ (T b).2.1))) = true) : ∀ a, a < N → ∀ b, b < N → a ≠ b → (T a).2.1 ≠ (T b).2.1 := fun a ha b hb hab => by
  have h1 := List.all_eq_true.mp (List.all_eq_true.mp h a (List.mem_range.mpr ha)) b (List.mem_range.mpr hb)
  rcases Bool.or_eq_true_iff.mp h1 with h2 | h2
  · exact absurd (of_decide_eq_true h2) hab
  · exact of_decide_eq_true h2
theorem zz_tyk {T : u_T} {N ci : Nat} (h : (List.range N).all (fun k => decide (parseFieldDescriptor (T k).2.2.1 = some (zz_tF ci k))) = true) : ∀ k, k < N → parseFieldDescriptor (T k).2.2.1 = some (zz_tF ci k) := fun k hk => of_decide_eq_true (List.all_eq_true.mp h k (List.mem_range.mpr hk))
theorem zz_st_Cr : (∀ w ∈ u_ws "CrewRules" F_Cr 8, w ∈ zz_al) ∧ (∀ k, k < 8 → parseFieldDescriptor (F_Cr k).2.2.1 = some (zz_tF 0 k)) ∧ ∀ a, a < 8 → ∀ b, b < 8 → a ≠ b → (F_Cr a).2.1 ≠ (F_Cr b).2.1 := ⟨zz_u_in (by decide +kernel), zz_tyk (by decide +kernel), zz_nm (by decide +kernel)⟩
theorem zz_st_Ta : (∀ w ∈ u_ws "CrewRules$Tape" F_Ta 2, w ∈ zz_al) ∧ (∀ k, k < 2 → parseFieldDescriptor (F_Ta k).2.2.1 = some (zz_tF 1 k)) ∧ ∀ a, a < 2 → ∀ b, b < 2 → a ≠ b → (F_Ta a).2.1 ≠ (F_Ta b).2.1 := ⟨zz_u_in (by decide +kernel), zz_tyk (by decide +kernel), zz_nm (by decide +kernel)⟩
theorem zz_st_Pa : (∀ w ∈ u_ws "CrewRules$Parser" F_Pa 2, w ∈ zz_al) ∧ (∀ k, k < 2 → parseFieldDescriptor (F_Pa k).2.2.1 = some (zz_tF 2 k)) ∧ ∀ a, a < 2 → ∀ b, b < 2 → a ≠ b → (F_Pa a).2.1 ≠ (F_Pa b).2.1 := ⟨zz_u_in (by decide +kernel), zz_tyk (by decide +kernel), zz_nm (by decide +kernel)⟩
theorem zz_st_Pe : (∀ w ∈ u_ws "CrewRules$People" F_Pe 5, w ∈ zz_al) ∧ (∀ k, k < 5 → parseFieldDescriptor (F_Pe k).2.2.1 = some (zz_tF 3 k)) ∧ ∀ a, a < 5 → ∀ b, b < 5 → a ≠ b → (F_Pe a).2.1 ≠ (F_Pe b).2.1 := ⟨zz_u_in (by decide +kernel), zz_tyk (by decide +kernel), zz_nm (by decide +kernel)⟩
theorem zz_st_Cw : (∀ w ∈ u_ws "CrewRules$Crews" F_Cw 4, w ∈ zz_al) ∧ (∀ k, k < 4 → parseFieldDescriptor (F_Cw k).2.2.1 = some (zz_tF 4 k)) ∧ ∀ a, a < 4 → ∀ b, b < 4 → a ≠ b → (F_Cw a).2.1 ≠ (F_Cw b).2.1 := ⟨zz_u_in (by decide +kernel), zz_tyk (by decide +kernel), zz_nm (by decide +kernel)⟩
theorem zz_st_Gr : (∀ w ∈ u_ws "CrewRules$Group" F_Gr 5, w ∈ zz_al) ∧ (∀ k, k < 5 → parseFieldDescriptor (F_Gr k).2.2.1 = some (zz_tF 5 k)) ∧ ∀ a, a < 5 → ∀ b, b < 5 → a ≠ b → (F_Gr a).2.1 ≠ (F_Gr b).2.1 := ⟨zz_u_in (by decide +kernel), zz_tyk (by decide +kernel), zz_nm (by decide +kernel)⟩
theorem zz_st_Rb : (∀ w ∈ u_ws "CrewRules$RuleBook" F_Rb 15, w ∈ zz_al) ∧ (∀ k, k < 15 → parseFieldDescriptor (F_Rb k).2.2.1 = some (zz_tF 6 k)) ∧ ∀ a, a < 15 → ∀ b, b < 15 → a ≠ b → (F_Rb a).2.1 ≠ (F_Rb b).2.1 := ⟨zz_u_in (by decide +kernel), zz_tyk (by decide +kernel), zz_nm (by decide +kernel)⟩
theorem zz_st_Mo : (∀ w ∈ u_ws "CrewRulesModel" F_Mo 29, w ∈ zz_al) ∧ (∀ k, k < 29 → parseFieldDescriptor (F_Mo k).2.2.1 = some (zz_tF 7 k)) ∧ ∀ a, a < 29 → ∀ b, b < 29 → a ≠ b → (F_Mo a).2.1 ≠ (F_Mo b).2.1 := ⟨zz_u_in (by decide +kernel), zz_tyk (by decide +kernel), zz_nm (by decide +kernel)⟩
theorem zz_static : zz_St zz_CL zz_al zz_tF := by
  intro ci q hq
  match ci, hq with
  | 0, hq => cases hq; exact zz_st_Cr
  | 1, hq => cases hq; exact zz_st_Ta
  | 2, hq => cases hq; exact zz_st_Pa
  | 3, hq => cases hq; exact zz_st_Pe
  | 4, hq => cases hq; exact zz_st_Cw
  | 5, hq => cases hq; exact zz_st_Gr
  | 6, hq => cases hq; exact zz_st_Rb
  | 7, hq => cases hq; exact zz_st_Mo
  | k + 8, hq => cases hq
/-- a program's table, as far as N -/
theorem zz_pg_ok {HOST own : String} {cc : ByteArray} {nL : Nat} {ini : Bool} {sw : Nat → List (Int32 × Nat)} {t : Nat → Option zz_I} {N : Nat} (h : (List.range N).all (fun pc => match t pc with
    | some (i, v, w, a, b) => zz_ok zz_CL zz_al HOST own cc nL ini sw pc i v w a b
    | none => true) = true) : ∀ (pc : Nat) (i : Instr) (v : Int32) (w : Int64) (a b : Nat), (bif Nat.blt pc N then t pc else none) = some (i, v, w, a, b) → zz_ok zz_CL zz_al HOST own cc nL ini sw pc i v w a b = true := by
  intro pc i v w a b hp
  cases hb : Nat.blt pc N with
  | false => rw [hb] at hp; cases hp
  | true =>
    rw [hb] at hp
    have h1 := List.all_eq_true.mp h pc (List.mem_range.mpr (Nat.blt_eq.mp hb))
    have hp1 : t pc = some (i, v, w, a, b) := hp
    rw [hp1] at h1
    exact h1
