/-! ===== throw new E("text") ===== -/
abbrev zz_nm2 : List String := ["java/lang/RuntimeException", "java/lang/Exception"]
/-- the words of a throw of E, by the number of E's maker -/
def zz_tw (E : String) (ik ic : Nat) : Prop := Bundle.fit E = true ∧ Cond.classLink "CrewRules" ik E ∈ zz_al ∧ Cond.initialized E ∈ zz_al ∧ (∀ w ∈ vx_atS "CrewRules" ic E zz_nm2, w ∈ zz_al) ∧ ∀ w ∈ Cond.classLink "CrewRules" ik E :: Cond.initialized E :: vx_atS "CrewRules" ic E zz_nm2, vx_ot w = true
theorem zz_all_in {L : List Cond} (h : L.all (fun w => decide (w ∈ zz_al)) = true) : ∀ w ∈ L, w ∈ zz_al := fun w hw => of_decide_eq_true (List.all_eq_true.mp h w hw)
theorem zz_all_ot {L : List Cond} (h : L.all vx_ot = true) : ∀ w ∈ L, vx_ot w = true := fun w hw => List.all_eq_true.mp h w hw
theorem zz_Tk_of {tF : Nat → Nat → FieldType} {l : Launch} {R : Room} {cc : ByteArray} {ini : Bool} {nL pc : Nat} {E text : String} {ik is ic : Nat} (hl : l.stackTraces = false) (hw : zz_tw E ik ic) (hss : ("CrewRules", is, text) ∈ zz_ss)
    (d0 : decode cc pc = .ok (.new ik, 3)) (d3 : decode cc (pc + 3) = .ok (.dup, 1)) (d4 : decode cc (pc + 4) = .ok (.ldc is, 2)) (d6 : decode cc (pc + 6) = .ok (.invokespecial ic, 3)) (d9 : decode cc (pc + 9) = .ok (.athrow, 1)) (hRf : 5 < R.frames) (hRl : 82 ≤ R.locals) :
    zz_Tk zz_CL tF l R "CrewRules" cc ini nL pc E := by
  obtain ⟨h1, h2, h3, h4, h5⟩ := hw
  intro p e s m args below meth c Qc XC D cT A mc ms nc ns H locs lsA hX hsx hlocks hnx hS hsz hc hs hmc hms hxc
  obtain ⟨hx, hb, hml, hown, hts, -⟩ := hX
  obtain ⟨sa, hsa⟩ := hsx.2.2 _ hss
  exact vx_throwS hx hb hl hown h1 (by decide +kernel) (hts _ h2) (hts _ h3) hsa (fun w hw => hts w (h4 w hw)) h5 hsx.1.1 hsx.1.2 hS (hsz.trans hml.symm) d0 d3 d4 d6 d9 (fun z hz => (hnx z hz).elim) hRf (by show 0 + 82 ≤ R.locals; omega) hc hs hlocks hxc hS.2.2 hmc hms
set_option maxRecDepth 100000 in
theorem zz_tw0 : zz_tw "java/lang/IndexOutOfBoundsException" 62 66 := ⟨by decide +kernel, by decide +kernel, by decide +kernel, zz_all_in (by decide +kernel), zz_all_ot (by decide +kernel)⟩
set_option maxRecDepth 100000 in
theorem zz_tw1 : zz_tw "java/lang/UnsupportedOperationException" 72 76 := ⟨by decide +kernel, by decide +kernel, by decide +kernel, zz_all_in (by decide +kernel), zz_all_ot (by decide +kernel)⟩
set_option maxRecDepth 100000 in
theorem zz_tw2 : zz_tw "java/lang/IllegalStateException" 88 92 := ⟨by decide +kernel, by decide +kernel, by decide +kernel, zz_all_in (by decide +kernel), zz_all_ot (by decide +kernel)⟩
set_option maxRecDepth 100000 in
theorem zz_tw3 : zz_tw "java/lang/IllegalArgumentException" 211 215 := ⟨by decide +kernel, by decide +kernel, by decide +kernel, zz_all_in (by decide +kernel), zz_all_ot (by decide +kernel)⟩
theorem tk_Cr_sign {l : Launch} {R : Room} (hl : l.stackTraces = false) (hRf : 5 < R.frames) (hRl : 82 ≤ R.locals) : ∀ pc E, th_Cr_sign pc = some E → zz_Tk zz_CL zz_tF l R "CrewRules" c_Cr_sign false 5 pc E := by
  intro pc E h
  unfold th_Cr_sign at h
  cases h11 : Nat.beq pc 11 with
  | true =>
    rw [h11] at h
    have e1 := Nat.eq_of_beq_eq_true h11
    have e2 : some "java/lang/IndexOutOfBoundsException" = some E := h
    cases e2
    subst e1
    exact zz_Tk_of hl zz_tw0 (is := 64) (text := "not 1 to 8 bytes") (by decide +kernel) (by decide +kernel) (by decide +kernel) (by decide +kernel) (by decide +kernel) (by decide +kernel) hRf hRl
  | false =>
    rw [h11] at h
    cases h36 : Nat.beq pc 36 with
    | true =>
      rw [h36] at h
      have e1 := Nat.eq_of_beq_eq_true h36
      have e2 : some "java/lang/UnsupportedOperationException" = some E := h
      cases e2
      subst e1
      exact zz_Tk_of hl zz_tw1 (is := 74) (text := "the tape has room for 300 bytes") (by decide +kernel) (by decide +kernel) (by decide +kernel) (by decide +kernel) (by decide +kernel) (by decide +kernel) hRf hRl
    | false =>
      rw [h36] at h
      cases h
theorem tk_Cr_read {l : Launch} {R : Room} (hl : l.stackTraces = false) (hRf : 5 < R.frames) (hRl : 82 ≤ R.locals) : ∀ pc E, th_Cr_read pc = some E → zz_Tk zz_CL zz_tF l R "CrewRules" c_Cr_read false 2 pc E := by
  intro pc E h
  unfold th_Cr_read at h
  cases h30 : Nat.beq pc 30 with
  | true =>
    rw [h30] at h
    have e1 := Nat.eq_of_beq_eq_true h30
    have e2 : some "java/lang/IllegalStateException" = some E := h
    cases e2
    subst e1
    exact zz_Tk_of hl zz_tw2 (is := 90) (text := "the text is wrong") (by decide +kernel) (by decide +kernel) (by decide +kernel) (by decide +kernel) (by decide +kernel) (by decide +kernel) hRf hRl
  | false =>
    rw [h30] at h
    cases h
theorem tk_Cr_person {l : Launch} {R : Room} (hl : l.stackTraces = false) (hRf : 5 < R.frames) (hRl : 82 ≤ R.locals) : ∀ pc E, th_Cr_person pc = some E → zz_Tk zz_CL zz_tF l R "CrewRules" c_Cr_person false 4 pc E := by
  intro pc E h
  unfold th_Cr_person at h
  cases h17 : Nat.beq pc 17 with
  | true =>
    rw [h17] at h
    have e1 := Nat.eq_of_beq_eq_true h17
    have e2 : some "java/lang/IndexOutOfBoundsException" = some E := h
    cases e2
    subst e1
    exact zz_Tk_of hl zz_tw0 (is := 102) (text := "marks are 0 to 3") (by decide +kernel) (by decide +kernel) (by decide +kernel) (by decide +kernel) (by decide +kernel) (by decide +kernel) hRf hRl
  | false =>
    rw [h17] at h
    cases h
theorem tk_Cr_duty {l : Launch} {R : Room} (hl : l.stackTraces = false) (hRf : 5 < R.frames) (hRl : 82 ≤ R.locals) : ∀ pc E, th_Cr_duty pc = some E → zz_Tk zz_CL zz_tF l R "CrewRules" c_Cr_duty false 4 pc E := by
  intro pc E h
  unfold th_Cr_duty at h
  cases h32 : Nat.beq pc 32 with
  | true =>
    rw [h32] at h
    have e1 := Nat.eq_of_beq_eq_true h32
    have e2 : some "java/lang/IndexOutOfBoundsException" = some E := h
    cases e2
    subst e1
    exact zz_Tk_of hl zz_tw0 (is := 120) (text := "the duty before ended after this one began") (by decide +kernel) (by decide +kernel) (by decide +kernel) (by decide +kernel) (by decide +kernel) (by decide +kernel) hRf hRl
  | false =>
    rw [h32] at h
    cases h
theorem tk_Cr_kind {l : Launch} {R : Room} (hl : l.stackTraces = false) (hRf : 5 < R.frames) (hRl : 82 ≤ R.locals) : ∀ pc E, th_Cr_kind pc = some E → zz_Tk zz_CL zz_tF l R "CrewRules" c_Cr_kind false 3 pc E := by
  intro pc E h
  unfold th_Cr_kind at h
  cases h15 : Nat.beq pc 15 with
  | true =>
    rw [h15] at h
    have e1 := Nat.eq_of_beq_eq_true h15
    have e2 : some "java/lang/IndexOutOfBoundsException" = some E := h
    cases e2
    subst e1
    exact zz_Tk_of hl zz_tw0 (is := 131) (text := "kinds are 1 to 9") (by decide +kernel) (by decide +kernel) (by decide +kernel) (by decide +kernel) (by decide +kernel) (by decide +kernel) hRf hRl
  | false =>
    rw [h15] at h
    cases h
theorem tk_Cr_join {l : Launch} {R : Room} (hl : l.stackTraces = false) (hRf : 5 < R.frames) (hRl : 82 ≤ R.locals) : ∀ pc E, th_Cr_join pc = some E → zz_Tk zz_CL zz_tF l R "CrewRules" c_Cr_join false 3 pc E := by
  intro pc E h
  unfold th_Cr_join at h
  cases h20 : Nat.beq pc 20 with
  | true =>
    rw [h20] at h
    have e1 := Nat.eq_of_beq_eq_true h20
    have e2 : some "java/lang/IllegalStateException" = some E := h
    cases e2
    subst e1
    exact zz_Tk_of hl zz_tw2 (is := 140) (text := "the person is in the crew") (by decide +kernel) (by decide +kernel) (by decide +kernel) (by decide +kernel) (by decide +kernel) (by decide +kernel) hRf hRl
  | false =>
    rw [h20] at h
    cases h44 : Nat.beq pc 44 with
    | true =>
      rw [h44] at h
      have e1 := Nat.eq_of_beq_eq_true h44
      have e2 : some "java/lang/UnsupportedOperationException" = some E := h
      cases e2
      subst e1
      exact zz_Tk_of hl zz_tw1 (is := 145) (text := "the crew has room for 12") (by decide +kernel) (by decide +kernel) (by decide +kernel) (by decide +kernel) (by decide +kernel) (by decide +kernel) hRf hRl
    | false =>
      rw [h44] at h
      cases h
theorem tk_Cr_leave {l : Launch} {R : Room} (hl : l.stackTraces = false) (hRf : 5 < R.frames) (hRl : 82 ≤ R.locals) : ∀ pc E, th_Cr_leave pc = some E → zz_Tk zz_CL zz_tF l R "CrewRules" c_Cr_leave false 3 pc E := by
  intro pc E h
  unfold th_Cr_leave at h
  cases h20 : Nat.beq pc 20 with
  | true =>
    rw [h20] at h
    have e1 := Nat.eq_of_beq_eq_true h20
    have e2 : some "java/lang/IllegalStateException" = some E := h
    cases e2
    subst e1
    exact zz_Tk_of hl zz_tw2 (is := 151) (text := "the person is not in the crew") (by decide +kernel) (by decide +kernel) (by decide +kernel) (by decide +kernel) (by decide +kernel) (by decide +kernel) hRf hRl
  | false =>
    rw [h20] at h
    cases h
theorem tk_Cr_never {l : Launch} {R : Room} (hl : l.stackTraces = false) (hRf : 5 < R.frames) (hRl : 82 ≤ R.locals) : ∀ pc E, th_Cr_never pc = some E → zz_Tk zz_CL zz_tF l R "CrewRules" c_Cr_never false 5 pc E := by
  intro pc E h
  unfold th_Cr_never at h
  cases h4 : Nat.beq pc 4 with
  | true =>
    rw [h4] at h
    have e1 := Nat.eq_of_beq_eq_true h4
    have e2 : some "java/lang/IndexOutOfBoundsException" = some E := h
    cases e2
    subst e1
    exact zz_Tk_of hl zz_tw0 (is := 203) (text := "places begin with 0") (by decide +kernel) (by decide +kernel) (by decide +kernel) (by decide +kernel) (by decide +kernel) (by decide +kernel) hRf hRl
  | false =>
    rw [h4] at h
    cases h
theorem tk_Cr_rule {l : Launch} {R : Room} (hl : l.stackTraces = false) (hRf : 5 < R.frames) (hRl : 82 ≤ R.locals) : ∀ pc E, th_Cr_rule pc = some E → zz_Tk zz_CL zz_tF l R "CrewRules" c_Cr_rule false 3 pc E := by
  intro pc E h
  unfold th_Cr_rule at h
  cases h22 : Nat.beq pc 22 with
  | true =>
    rw [h22] at h
    have e1 := Nat.eq_of_beq_eq_true h22
    have e2 : some "java/lang/IllegalArgumentException" = some E := h
    cases e2
    subst e1
    exact zz_Tk_of hl zz_tw3 (is := 213) (text := "there is no rule for this kind") (by decide +kernel) (by decide +kernel) (by decide +kernel) (by decide +kernel) (by decide +kernel) (by decide +kernel) hRf hRl
  | false =>
    rw [h22] at h
    cases h118 : Nat.beq pc 118 with
    | true =>
      rw [h118] at h
      have e1 := Nat.eq_of_beq_eq_true h118
      have e2 : some "java/lang/IllegalArgumentException" = some E := h
      cases e2
      subst e1
      exact zz_Tk_of hl zz_tw3 (is := 219) (text := "a rule tells 0 to 4") (by decide +kernel) (by decide +kernel) (by decide +kernel) (by decide +kernel) (by decide +kernel) (by decide +kernel) hRf hRl
    | false =>
      rw [h118] at h
      cases h
theorem tk_Cr_requirePerson {l : Launch} {R : Room} (hl : l.stackTraces = false) (hRf : 5 < R.frames) (hRl : 82 ≤ R.locals) : ∀ pc E, th_Cr_requirePerson pc = some E → zz_Tk zz_CL zz_tF l R "CrewRules" c_Cr_requirePerson false 1 pc E := by
  intro pc E h
  unfold th_Cr_requirePerson at h
  cases h10 : Nat.beq pc 10 with
  | true =>
    rw [h10] at h
    have e1 := Nat.eq_of_beq_eq_true h10
    have e2 : some "java/lang/IllegalArgumentException" = some E := h
    cases e2
    subst e1
    exact zz_Tk_of hl zz_tw3 (is := 221) (text := "persons are 0 to 49") (by decide +kernel) (by decide +kernel) (by decide +kernel) (by decide +kernel) (by decide +kernel) (by decide +kernel) hRf hRl
  | false =>
    rw [h10] at h
    cases h
theorem tk_Cr_requireCrew {l : Launch} {R : Room} (hl : l.stackTraces = false) (hRf : 5 < R.frames) (hRl : 82 ≤ R.locals) : ∀ pc E, th_Cr_requireCrew pc = some E → zz_Tk zz_CL zz_tF l R "CrewRules" c_Cr_requireCrew false 1 pc E := by
  intro pc E h
  unfold th_Cr_requireCrew at h
  cases h10 : Nat.beq pc 10 with
  | true =>
    rw [h10] at h
    have e1 := Nat.eq_of_beq_eq_true h10
    have e2 : some "java/lang/IllegalArgumentException" = some E := h
    cases e2
    subst e1
    exact zz_Tk_of hl zz_tw3 (is := 223) (text := "crews are 0 to 19") (by decide +kernel) (by decide +kernel) (by decide +kernel) (by decide +kernel) (by decide +kernel) (by decide +kernel) hRf hRl
  | false =>
    rw [h10] at h
    cases h
theorem tk_Cr_requireSkill {l : Launch} {R : Room} (hl : l.stackTraces = false) (hRf : 5 < R.frames) (hRl : 82 ≤ R.locals) : ∀ pc E, th_Cr_requireSkill pc = some E → zz_Tk zz_CL zz_tF l R "CrewRules" c_Cr_requireSkill false 1 pc E := by
  intro pc E h
  unfold th_Cr_requireSkill at h
  cases h10 : Nat.beq pc 10 with
  | true =>
    rw [h10] at h
    have e1 := Nat.eq_of_beq_eq_true h10
    have e2 : some "java/lang/IllegalArgumentException" = some E := h
    cases e2
    subst e1
    exact zz_Tk_of hl zz_tw3 (is := 225) (text := "skills are 0 to 9") (by decide +kernel) (by decide +kernel) (by decide +kernel) (by decide +kernel) (by decide +kernel) (by decide +kernel) hRf hRl
  | false =>
    rw [h10] at h
    cases h
theorem tk_Cr_requireRank {l : Launch} {R : Room} (hl : l.stackTraces = false) (hRf : 5 < R.frames) (hRl : 82 ≤ R.locals) : ∀ pc E, th_Cr_requireRank pc = some E → zz_Tk zz_CL zz_tF l R "CrewRules" c_Cr_requireRank false 1 pc E := by
  intro pc E h
  unfold th_Cr_requireRank at h
  cases h10 : Nat.beq pc 10 with
  | true =>
    rw [h10] at h
    have e1 := Nat.eq_of_beq_eq_true h10
    have e2 : some "java/lang/IndexOutOfBoundsException" = some E := h
    cases e2
    subst e1
    exact zz_Tk_of hl zz_tw0 (is := 227) (text := "ranks are 0 to 9") (by decide +kernel) (by decide +kernel) (by decide +kernel) (by decide +kernel) (by decide +kernel) (by decide +kernel) hRf hRl
  | false =>
    rw [h10] at h
    cases h
theorem tk_Cr_requireHour {l : Launch} {R : Room} (hl : l.stackTraces = false) (hRf : 5 < R.frames) (hRl : 82 ≤ R.locals) : ∀ pc E, th_Cr_requireHour pc = some E → zz_Tk zz_CL zz_tF l R "CrewRules" c_Cr_requireHour false 1 pc E := by
  intro pc E h
  unfold th_Cr_requireHour at h
  cases h10 : Nat.beq pc 10 with
  | true =>
    rw [h10] at h
    have e1 := Nat.eq_of_beq_eq_true h10
    have e2 : some "java/lang/IndexOutOfBoundsException" = some E := h
    cases e2
    subst e1
    exact zz_Tk_of hl zz_tw0 (is := 230) (text := "hours are 0 to 99999") (by decide +kernel) (by decide +kernel) (by decide +kernel) (by decide +kernel) (by decide +kernel) (by decide +kernel) hRf hRl
  | false =>
    rw [h10] at h
    cases h
