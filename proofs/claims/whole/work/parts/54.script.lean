/-! ===== the script: a list of ints beside the places ===== -/
/-- one step; iaload and arraylength are the script's -/
def zz_1s (SL : Nat) (xs : Nat → Int32) (tF : Nat → Nat → FieldType) (RC RS : Nat) (gr : Option Nat) (rt : Option FieldType) (cl : Nat → Nat → Option zz_Y) (sw : Nat → List (Int32 × Nat)) (pg : Nat → Option zz_I) (th : Nat → Option String) (ret : Option Value → List va_E → Nat → Nat → Prop) (xx : Nat → String → List (Option Value) → List va_E → Nat → Nat → Prop)
    (k : zz_K) (pc : Nat) (ls : List (Option Value)) (st : List Value) (ws : List va_E) (nc ns : Nat) : Prop :=
  match pg pc with
  | some (.iaload, _, _, _, _) => match st with
    | .int i :: .ref q :: r => q = 1000 ∧ (vp_in i SL ∧ k (pc + 1) ls (.int (xs i.toNatClampNeg) :: r) ws nc ns)
    | _ => False
  | some (.arraylength, _, _, _, _) => match st with
    | .ref q :: r => q = 1000 ∧ k (pc + 1) ls (.int (nI SL) :: r) ws nc ns
    | _ => False
  | _ => zz_1 tF RC RS gr rt cl sw pg th ret xx k pc ls st ws nc ns
def zz_ws (SL : Nat) (xs : Nat → Int32) (tF : Nat → Nat → FieldType) (RC RS : Nat) (gr : Option Nat) (rt : Option FieldType) (cl : Nat → Nat → Option zz_Y) (sw : Nat → List (Int32 × Nat)) (pg : Nat → Option zz_I) (th : Nat → Option String) (ret : Option Value → List va_E → Nat → Nat → Prop) (xx : Nat → String → List (Option Value) → List va_E → Nat → Nat → Prop)
    (cut : Nat → Option (List Bool × zz_Q)) : Nat → zz_K
  | 0 => fun _ _ _ _ _ _ => False
  | n + 1 => fun pc ls st ws nc ns => match cut pc with
    | some (bm, I) => I (zz_mask bm ls) st ws nc ns
    | none => zz_1s SL xs tF RC RS gr rt cl sw pg th ret xx (zz_ws SL xs tF RC RS gr rt cl sw pg th ret xx cut n) pc ls st ws nc ns
section ZSC
variable {CL : List vw_C} {p : Program} {l : Launch} {e : Env} {R : Room} {s : State} {m : MethodId} {args : Array Value} {below : List Frame} {meth : Method} {c : Code} {Q : State → Prop} {D : va_G} {cT : Nat → ClassId} {A : Nat → Prop} {nL : Nat}
variable {BIG : List Cond} {tF : Nat → Nat → FieldType} {HOST own : String} {cc : ByteArray} {ini : Bool} {gr : Option Nat} {rt : Option FieldType} {cl : Nat → Nat → Option zz_Y} {sw : Nat → List (Int32 × Nat)} {pg : Nat → Option zz_I} {th : Nat → Option String}
variable {ret : Option Value → List va_E → Nat → Nat → Prop} {xx : Nat → String → List (Option Value) → List va_E → Nat → Nat → Prop} {ad0 : Nat → Nat} {b SL : Nat} {xs : Nat → Int32}
/-- the script lies at b, outside A -/
def zz_Sc (s : State) (A : Nat → Prop) (ad0 : Nat → Nat) (b SL : Nat) (xs : Nat → Int32) : Prop := va_X b SL xs s s.heap ∧ b < s.heap.size ∧ ¬ A b ∧ ad0 1000 = b
theorem zz_S.one (F : zz_F CL p l e R s m args below meth c Q D cT A nL (fun a => a = ad0) BIG tF HOST own cc ini gr rt cl sw pg th ret xx) (hs : zz_Sc s A ad0 b SL xs) {k : zz_K}
    (hk : ∀ pc ls st ws nc ns, k pc ls st ws nc ns → zz_G CL p l e R s m args below meth c Q D cT A nL (fun a => a = ad0) pc ls st ws nc ns) {pc : Nat} {ls : List (Option Value)} {st : List Value} {ws : List va_E} {nc ns : Nat}
    (h : zz_1s SL xs tF R.cells R.slots gr rt cl sw pg th ret xx k pc ls st ws nc ns) : zz_G CL p l e R s m args below meth c Q D cT A nL (fun a => a = ad0) pc ls st ws nc ns := by
  unfold zz_1s at h
  obtain ⟨hX, hbl, hbA, had⟩ := hs
  have hx := F.1.1
  have hb := F.1.2.1
  have hpg := F.2.2.2.2.2.1
  split at h
  · next hp =>
    have hd : decode cc pc = .ok (.iaload, 1) := of_decide_eq_true (hpg _ _ _ _ _ _ hp)
    split at h
    · next i q r =>
      obtain ⟨rfl, hin, h⟩ := h
      intro ad H locs lsA hag hP hD hS hL
      subst hag
      have := va_sld (ls := lsA) (rest := r.map (zz_V ad)) hx hb hX hbl hbA hS hin hd (hk _ _ _ _ _ _ h ad H locs lsA rfl hP hD hS hL)
      rw [← had] at this
      exact this
    · exact h.elim
  · next hp =>
    have hd : decode cc pc = .ok (.arraylength, 1) := of_decide_eq_true (hpg _ _ _ _ _ _ hp)
    split at h
    · next q r =>
      obtain ⟨rfl, h⟩ := h
      intro ad H locs lsA hag hP hD hS hL
      subst hag
      have := va_slen (ls := lsA) (rest := r.map (zz_V ad)) hx hb hX hbl hbA hS hd (hk _ _ _ _ _ _ h ad H locs lsA rfl hP hD hS hL)
      rw [← had] at this
      exact this
    · exact h.elim
  · exact F.one hk h
theorem zz_S.run (F : zz_F CL p l e R s m args below meth c Q D cT A nL (fun a => a = ad0) BIG tF HOST own cc ini gr rt cl sw pg th ret xx) (hs : zz_Sc s A ad0 b SL xs) {cut : Nat → Option (List Bool × zz_Q)}
    (hcut : ∀ pc bm I, cut pc = some (bm, I) → bm.length = nL ∧ ∀ ls st ws nc ns, I ls st ws nc ns → zz_G CL p l e R s m args below meth c Q D cT A nL (fun a => a = ad0) pc ls st ws nc ns) :
    ∀ (n pc : Nat) (ls : List (Option Value)) (st : List Value) (ws : List va_E) (nc ns : Nat), zz_ws SL xs tF R.cells R.slots gr rt cl sw pg th ret xx cut n pc ls st ws nc ns → zz_G CL p l e R s m args below meth c Q D cT A nL (fun a => a = ad0) pc ls st ws nc ns := by
  intro n
  induction n with
  | zero => exact fun _ _ _ _ _ _ h => False.elim h
  | succ n ih =>
    intro pc ls st ws nc ns h
    unfold zz_ws at h
    split at h
    · next bm I hc =>
      obtain ⟨h1, h2⟩ := hcut pc bm I hc
      intro ad H locs lsA hag hP hD hS hL
      exact h2 _ _ _ _ _ h ad H locs lsA hag hP hD hS (hL.mask bm h1)
    · exact zz_S.one F hs ih h
theorem zz_S.cuts (F : zz_F CL p l e R s m args below meth c Q D cT A nL (fun a => a = ad0) BIG tF HOST own cc ini gr rt cl sw pg th ret xx) (hs : zz_Sc s A ad0 b SL xs) {cut : Nat → Option (List Bool × (Nat → zz_Q))} {fuel : Nat} (hlen : ∀ pc bm I, cut pc = some (bm, I) → bm.length = nL)
    (hb : ∀ pc bm I, cut pc = some (bm, I) → ∀ n ls st ws nc ns, I n ls st ws nc ns → zz_1s SL xs tF R.cells R.slots gr rt cl sw pg th ret xx (zz_ws SL xs tF R.cells R.slots gr rt cl sw pg th ret xx (zz_ct cut (some n)) fuel) pc ls st ws nc ns) :
    ∀ (N n : Nat), n < N → ∀ pc bm I, cut pc = some (bm, I) → ∀ ls st ws nc ns, I n ls st ws nc ns → zz_G CL p l e R s m args below meth c Q D cT A nL (fun a => a = ad0) pc ls st ws nc ns := by
  intro N
  induction N with
  | zero => exact fun n hn => absurd hn (Nat.not_lt_zero n)
  | succ N ih =>
    intro n hn pc bm I hc ls st ws nc ns hI
    refine zz_S.one F hs (zz_S.run F hs (fun pc1 bm1 I1 h1 => ?_) fuel) (hb pc bm I hc n ls st ws nc ns hI)
    unfold zz_ct at h1
    split at h1
    · next bm2 I2 h2 =>
      cases h1
      refine ⟨hlen _ _ _ h2, fun ls st ws nc ns h3 => ?_⟩
      obtain ⟨n1, h4, h5⟩ := h3
      exact ih n1 (by omega) _ _ _ h2 _ _ _ _ _ h5
    · cases h1
end ZSC
