/-! ===== the model's cells ===== -/
/-- several cuts -/
def zz_cN : List (Nat × List Bool × (Nat → zz_Q)) → Nat → Option (List Bool × (Nat → zz_Q))
  | [], _ => none
  | c :: r, pc => bif Nat.beq pc c.1 then some c.2 else zz_cN r pc
theorem zz_cN_mem : ∀ {cs : List (Nat × List Bool × (Nat → zz_Q))} {pc : Nat} {c : List Bool × (Nat → zz_Q)}, zz_cN cs pc = some c → (pc, c) ∈ cs
  | [], _, _, h => by cases h
  | d :: r, pc, c, h => by
    unfold zz_cN at h
    cases hb : Nat.beq pc d.1 with
    | true =>
      rw [hb] at h
      have e1 := Nat.eq_of_beq_eq_true hb
      cases h
      subst e1
      exact List.mem_cons_self
    | false =>
      rw [hb] at h
      exact List.mem_cons_of_mem _ (zz_cN_mem h)
theorem zz_VCn {tF : Nat → Nat → FieldType} {rm : Room} {rt : Option FieldType} {L : List (Nat × Nat × zz_Y)} {sw : Nat → List (Int32 × Nat)} {pg : Nat → Option zz_I} {th : Nat → Option String} {nL : Nat} {yy : zz_Y} (fuel : Nat)
    (h : ∀ (As : List Value) (ws : List va_E) (k : Option Value → List va_E → Prop) (x : String → List va_E → Prop), yy.2.2.2.2 As ws k x → (zz_sl As).length ≤ nL ∧ ∃ cs : List (Nat × List Bool × (Nat → zz_Q)),
      (∀ c ∈ cs, c.2.1.length = nL ∧ ∀ n ls st ws' nc ns, c.2.2 n ls st ws' nc ns → zz_1 tF rm.cells rm.slots (zz_g0 yy.2.1 ws.length) rt (zz_tab L) sw pg th (zz_rn yy.2.2.1 yy.2.2.2.1 k) (zz_xn yy.2.1 yy.2.2.1 yy.2.2.2.1 x) (zz_w tF rm.cells rm.slots (zz_g0 yy.2.1 ws.length) rt (zz_tab L) sw pg th (zz_rn yy.2.2.1 yy.2.2.2.1 k) (zz_xn yy.2.1 yy.2.2.1 yy.2.2.2.1 x) (zz_ct (zz_cN cs) (some n)) fuel) c.1 ls st ws' nc ns) ∧
      zz_w tF rm.cells rm.slots (zz_g0 yy.2.1 ws.length) rt (zz_tab L) sw pg th (zz_rn yy.2.2.1 yy.2.2.2.1 k) (zz_xn yy.2.1 yy.2.2.1 yy.2.2.2.1 x) (zz_ct (zz_cN cs) none) fuel 0 (zz_en nL As) [] ws 0 0) : zz_VC tF rm rt L sw pg th nL yy := by
  intro As ws k x hp1
  obtain ⟨h1, cs, h2, h3⟩ := h As ws k x hp1
  exact ⟨h1, zz_cN cs, fuel, fun pc bm I hc => (h2 _ (zz_cN_mem hc)).1, fun pc bm I hc => (h2 _ (zz_cN_mem hc)).2, h3⟩
theorem zz_al1 {α : Type} {c : α} {r : List α} {p : α → Prop} (h : p c) (hr : ∀ q ∈ r, p q) : ∀ q ∈ c :: r, p q := fun q hq => by
  rcases List.mem_cons.mp hq with e | e
  · rw [e]; exact h
  · exact hr q e
theorem zz_al0 {α : Type} {p : α → Prop} : ∀ q ∈ ([] : List α), p q := fun _ h => (nomatch h)
/-- thrown, taped, length, at, wrong, place -/
abbrev qT : Type := Int32 × Int32 × Int32 × Int32 × Int32 × Int32
/-- told, least, greatest, rest, longest, needs; count, skill, rank, exact of needs; how many substitutes; wanted, other, from, to -/
abbrev qH : Type := (qA × qA × qA × qA × qA × qA) × (qA × qA × qA × qA) × qA × (qA × qA × qA × qA)
/-- .., the tape, the books, people (rank, marks, until, begin, before), kinds, who is in -/
abbrev qM : Type := qT × qA × qH × (qA × qA × qA × qA × qA) × qA × qA
def gM : qM → List va_E
  | ((th, tp, ln, aa, wr, pl), ta, ((td, le, ge, re, lg, ne), (nn, nk, nr, nx), su, (wa, ot, fm, tz)), (rk, mr, un, bg, bf), kd, im) =>
    [.inr (7, [.int th, .ref 47, .int tp, .int ln, .int aa, .int wr, .int pl, .ref 48, .ref 49, .ref 50, .ref 51, .ref 52, .ref 53, .ref 54, .ref 55, .ref 56, .ref 57, .ref 58, .ref 59, .ref 60, .ref 61, .ref 62, .ref 63, .ref 64, .ref 65, .ref 66, .ref 67, .ref 68, .ref 69]),
     .inl (0, 300, .inl ta), .inl (1, 20, .inl td), .inl (0, 20, .inl le), .inl (0, 20, .inl ge), .inl (0, 20, .inl re), .inl (0, 20, .inl lg), .inl (0, 20, .inl ne), .inl (0, 120, .inl nn), .inl (0, 120, .inl nk), .inl (0, 120, .inl nr), .inl (1, 120, .inl nx), .inl (0, 2, .inl su), .inl (0, 20, .inl wa), .inl (0, 20, .inl ot), .inl (0, 20, .inl fm), .inl (0, 20, .inl tz), .inl (0, 50, .inl rk), .inl (0, 50, .inl mr), .inl (0, 500, .inl un), .inl (0, 50, .inl bg), .inl (0, 50, .inl bf), .inl (0, 20, .inl kd), .inl (1, 1000, .inl im)]
/-- the class's cells, whatever they hold -/
def p46 (f : Nat → va_E) : List va_E := [f 0, f 1, f 2, f 3, f 4, f 5, f 6, f 7, f 8, f 9, f 10, f 11, f 12, f 13, f 14, f 15, f 16, f 17, f 18, f 19, f 20, f 21, f 22, f 23, f 24, f 25, f 26, f 27, f 28, f 29, f 30, f 31, f 32, f 33, f 34, f 35, f 36, f 37, f 38, f 39, f 40, f 41, f 42, f 43, f 44, f 45]
def gW (f : Nat → va_E) (t : qM) (R : List va_E) : List va_E := p46 f ++ (gM t ++ R)
def fC (s : qC) : Nat → va_E := fun i => ((gC s)[i]?).getD (.inr (0, []))
theorem fC_p46 (s : qC) : p46 (fC s) = gC s := by
  obtain ⟨⟨tb, tl⟩, pa, ⟨rk, mr, fr, bf, un⟩, ⟨kd, sz, mb, co⟩, ⟨wh, hd, gs⟩, ⟨⟨le, ge, re, lo, nc⟩, rc, ⟨nx, nn, nk, nr⟩, ⟨wa, si, fh, lh⟩, sc⟩, ⟨⟨le1, ge1, re1, lo1, nc1⟩, rc1, ⟨nx1, nn1, nk1, nr1⟩, ⟨wa1, si1, fh1, lh1⟩, sc1⟩, fl, wr⟩ := s
  cases fl <;> rfl
def mNew : qM := ((0, 0, 0, 0, 0, -1), z0, ((z0, z0, z0, z0, z0, z0), (z0, z0, z0, z0), z0, (z0, z0, z0, z0)), (z0, z0, z0, zj (-1) 50, zj (-1) 50), zj 1 20, z0)
/-- no cell of the class speaks of a place beyond the class's -/
def cl46 (f : Nat → va_E) : Prop := ∀ n, 46 ≤ n → (p46 f).all (zz_ce n) = true
def pt_Mo_init : zz_PT := fun As ws k _ => ∃ (f : Nat → va_E), cl46 f ∧ As = [.ref 46] ∧ ws = p46 f ++ [.inr (7, zz_df zz_tF 7 29)] ∧ k none (gW f mNew [])
theorem zz_cl46 {f : Nat → va_E} {n : Nat} {ls : List (Option Value)} {st : List Value} {ws : List va_E} (h : cl46 f) (hn : 46 ≤ n) (h1 : ls.all (zz_co n) = true) (h2 : st.all (zz_cv n) = true) (h3 : ws.all (zz_ce n) = true) : zz_cl n ls st (p46 f ++ ws) = true := by
  unfold zz_cl
  rw [h1, h2, List.all_append, h n hn, h3]
  rfl
def iMo_init (f : Nat → va_E) (c : Nat) : Nat → zz_Q := fun z ls st ws nc ns => bif Nat.beq c 0 then (∃ j, j ≤ 50 ∧ z = 100 + (50 - j) ∧ ls = [some (.ref 46), some (.int (nI j))] ∧ st = [] ∧ ws = gW f ((0, 0, 0, 0, 0, -1), z0, ((z0, z0, z0, z0, z0, z0), (z0, z0, z0, z0), z0, (z0, z0, z0, z0)), (z0, z0, z0, zj (-1) j, zj (-1) j), z0, z0) [] ∧ nc = 23 ∧ ns = 2702) else (∃ j, j ≤ 20 ∧ z = 20 - j ∧ ls = [some (.ref 46), some (.int (nI j))] ∧ st = [] ∧ ws = gW f ((0, 0, 0, 0, 0, -1), z0, ((z0, z0, z0, z0, z0, z0), (z0, z0, z0, z0), z0, (z0, z0, z0, z0)), (z0, z0, z0, zj (-1) 50, zj (-1) 50), zj 1 j, z0) [] ∧ nc = 23 ∧ ns = 2702)
set_option maxHeartbeats 4000000 in
set_option maxRecDepth 100000 in
theorem m_Mo_init (l : Launch) : zz_M zz_CL l y_Mo_init (Cond.code y_Mo_init c_Mo_init 2 none :: zz_big) (zz_rm 1 20 24 2708) (1, true, 23, 2702, pt_Mo_init) := by
  refine zz_M_of (HOST := "CrewRules") (L := []) (sw := sw_Mo_init) (pg := pg_Mo_init) (th := th_Mo_init) (ini := true) (by decide +kernel) zz_static (fun _ => rfl) (by decide) (by decide) ok_Mo_init zz_nil (fun pc E h => (nomatch h)) (zz_VCn 140 ?_)
  rintro As ws k x ⟨f, hf, rfl, rfl, hk⟩
  refine ⟨Nat.le_of_ble_eq_true rfl, [(197, [true, true], iMo_init f 0), (225, [true, true], iMo_init f 1)], zz_al1 ⟨rfl, ?_⟩ (zz_al1 ⟨rfl, ?_⟩ zz_al0), ?_⟩
  · rintro z ls st ws nc ns ⟨j, hj, rfl, rfl, rfl, rfl, rfl, rfl⟩
    refine And.intro (fun (c1 : 50 ≤ nI j) => ?_) (fun (c1 : ¬ 50 ≤ nI j) => ?_)
    · have : j = 50 := by
        have := (nI_leI (a := 50) (by decide) (by omega)).mp c1
        omega
      subst this
      exact Exists.intro 20 (And.intro (by show 20 < 100 + (50 - 50); decide) ⟨0, by decide, rfl, rfl, rfl, by (first | (rw [zj_0]; done) | (rw [zj_0]; rfl)), rfl, rfl⟩)
    · have hj2 : j < 50 := Nat.lt_of_not_le (fun z : 50 ≤ j => c1 (nI_le z (by omega)))
      have e2 : (nI j).toNatClampNeg = j := nI_clamp (by omega)
      have i1 := zn_in hj2 (show 50 < 2 ^ 31 by decide)
      refine And.intro i1 (And.intro i1 ?_)
      refine Exists.intro (100 + (50 - (j + 1))) (And.intro (by show 100 + (50 - (j + 1)) < 100 + (50 - j); omega) ⟨j + 1, hj2, rfl, by rw [← nI_1]; rfl, rfl, ?_, rfl, rfl⟩)
      have e3 : upd (zj (-1) j) (nI j).toNatClampNeg (-1) = zj (-1) (j + 1) := by rw [e2]; exact zj_s
      rw [← e3]
      rfl
  · rintro z ls st ws nc ns ⟨j, hj, rfl, rfl, rfl, rfl, rfl, rfl⟩
    refine And.intro (fun (c1 : 20 ≤ nI j) => ?_) (fun (c1 : ¬ 20 ≤ nI j) => ?_)
    · have : j = 20 := by
        have := (nI_leI (a := 20) (by decide) (by omega)).mp c1
        omega
      subst this
      exact And.intro rfl (And.intro (And.intro (by decide) (by decide)) hk)
    · have hj2 : j < 20 := Nat.lt_of_not_le (fun z : 20 ≤ j => c1 (nI_le z (by omega)))
      have e2 : (nI j).toNatClampNeg = j := nI_clamp (by omega)
      have i1 := zn_in hj2 (show 20 < 2 ^ 31 by decide)
      refine And.intro i1 ?_
      refine Exists.intro (20 - (j + 1)) (And.intro (by show 20 - (j + 1) < 20 - j; omega) ⟨j + 1, hj2, rfl, by rw [← nI_1]; rfl, rfl, ?_, rfl, rfl⟩)
      have e3 : upd (zj 1 j) (nI j).toNatClampNeg 1 = zj 1 (j + 1) := by rw [e2]; exact zj_s
      rw [← e3]
      rfl
  · refine zz_wn (ls := [some (.ref 46), none]) (st := []) (ws := p46 f ++ [.inr (7, [.int 0, .null, .int 0, .int 0, .int 0, .int 0, .int 0, .null, .null, .null, .null, .null, .null, .null, .null, .null, .null, .null, .null, .null, .null, .null, .null, .null, .null, .null, .null, .null, .null])]) (nc := 0) (ns := 0) rfl rfl rfl rfl rfl ?_
    refine (And.intro (And.intro rfl (And.intro (zz_cl46 hf (Nat.le_of_ble_eq_true rfl) rfl rfl rfl) (And.intro (by decide) (And.intro (by decide) (And.intro rfl (by decide)))))) ?_)
    refine zz_wn (ls := [some (.ref 46), none]) (st := [.ref 47, .ref 46]) (ws := p46 f ++ [.inr (7, [.int 0, .null, .int 0, .int 0, .int 0, .int 0, .int 0, .null, .null, .null, .null, .null, .null, .null, .null, .null, .null, .null, .null, .null, .null, .null, .null, .null, .null, .null, .null, .null, .null]), .inl (0, 300, .inl z0)]) (nc := 1) (ns := 300) rfl rfl rfl rfl rfl ?_
    refine (And.intro (And.intro rfl (And.intro (zz_cl46 hf (Nat.le_of_ble_eq_true rfl) rfl rfl rfl) (And.intro (by decide) (And.intro (by decide) (And.intro rfl (by decide)))))) ?_)
    refine zz_wn (ls := [some (.ref 46), none]) (st := [.ref 48, .ref 46]) (ws := p46 f ++ [.inr (7, [.int 0, .ref 47, .int 0, .int 0, .int 0, .int 0, .int (-1), .null, .null, .null, .null, .null, .null, .null, .null, .null, .null, .null, .null, .null, .null, .null, .null, .null, .null, .null, .null, .null, .null]), .inl (0, 300, .inl z0), .inl (1, 20, .inl z0)]) (nc := 2) (ns := 320) rfl rfl rfl rfl rfl ?_
    refine (And.intro (And.intro rfl (And.intro (zz_cl46 hf (Nat.le_of_ble_eq_true rfl) rfl rfl rfl) (And.intro (by decide) (And.intro (by decide) (And.intro rfl (by decide)))))) ?_)
    refine zz_wn (ls := [some (.ref 46), none]) (st := [.ref 49, .ref 46]) (ws := p46 f ++ [.inr (7, [.int 0, .ref 47, .int 0, .int 0, .int 0, .int 0, .int (-1), .ref 48, .null, .null, .null, .null, .null, .null, .null, .null, .null, .null, .null, .null, .null, .null, .null, .null, .null, .null, .null, .null, .null]), .inl (0, 300, .inl z0), .inl (1, 20, .inl z0), .inl (0, 20, .inl z0)]) (nc := 3) (ns := 340) rfl rfl rfl rfl rfl ?_
    refine (And.intro (And.intro rfl (And.intro (zz_cl46 hf (Nat.le_of_ble_eq_true rfl) rfl rfl rfl) (And.intro (by decide) (And.intro (by decide) (And.intro rfl (by decide)))))) ?_)
    refine zz_wn (ls := [some (.ref 46), none]) (st := [.ref 50, .ref 46]) (ws := p46 f ++ [.inr (7, [.int 0, .ref 47, .int 0, .int 0, .int 0, .int 0, .int (-1), .ref 48, .ref 49, .null, .null, .null, .null, .null, .null, .null, .null, .null, .null, .null, .null, .null, .null, .null, .null, .null, .null, .null, .null]), .inl (0, 300, .inl z0), .inl (1, 20, .inl z0), .inl (0, 20, .inl z0), .inl (0, 20, .inl z0)]) (nc := 4) (ns := 360) rfl rfl rfl rfl rfl ?_
    refine (And.intro (And.intro rfl (And.intro (zz_cl46 hf (Nat.le_of_ble_eq_true rfl) rfl rfl rfl) (And.intro (by decide) (And.intro (by decide) (And.intro rfl (by decide)))))) ?_)
    refine zz_wn (ls := [some (.ref 46), none]) (st := [.ref 51, .ref 46]) (ws := p46 f ++ [.inr (7, [.int 0, .ref 47, .int 0, .int 0, .int 0, .int 0, .int (-1), .ref 48, .ref 49, .ref 50, .null, .null, .null, .null, .null, .null, .null, .null, .null, .null, .null, .null, .null, .null, .null, .null, .null, .null, .null]), .inl (0, 300, .inl z0), .inl (1, 20, .inl z0), .inl (0, 20, .inl z0), .inl (0, 20, .inl z0), .inl (0, 20, .inl z0)]) (nc := 5) (ns := 380) rfl rfl rfl rfl rfl ?_
    refine (And.intro (And.intro rfl (And.intro (zz_cl46 hf (Nat.le_of_ble_eq_true rfl) rfl rfl rfl) (And.intro (by decide) (And.intro (by decide) (And.intro rfl (by decide)))))) ?_)
    refine zz_wn (ls := [some (.ref 46), none]) (st := [.ref 52, .ref 46]) (ws := p46 f ++ [.inr (7, [.int 0, .ref 47, .int 0, .int 0, .int 0, .int 0, .int (-1), .ref 48, .ref 49, .ref 50, .ref 51, .null, .null, .null, .null, .null, .null, .null, .null, .null, .null, .null, .null, .null, .null, .null, .null, .null, .null]), .inl (0, 300, .inl z0), .inl (1, 20, .inl z0), .inl (0, 20, .inl z0), .inl (0, 20, .inl z0), .inl (0, 20, .inl z0), .inl (0, 20, .inl z0)]) (nc := 6) (ns := 400) rfl rfl rfl rfl rfl ?_
    refine (And.intro (And.intro rfl (And.intro (zz_cl46 hf (Nat.le_of_ble_eq_true rfl) rfl rfl rfl) (And.intro (by decide) (And.intro (by decide) (And.intro rfl (by decide)))))) ?_)
    refine zz_wn (ls := [some (.ref 46), none]) (st := [.ref 53, .ref 46]) (ws := p46 f ++ [.inr (7, [.int 0, .ref 47, .int 0, .int 0, .int 0, .int 0, .int (-1), .ref 48, .ref 49, .ref 50, .ref 51, .ref 52, .null, .null, .null, .null, .null, .null, .null, .null, .null, .null, .null, .null, .null, .null, .null, .null, .null]), .inl (0, 300, .inl z0), .inl (1, 20, .inl z0), .inl (0, 20, .inl z0), .inl (0, 20, .inl z0), .inl (0, 20, .inl z0), .inl (0, 20, .inl z0), .inl (0, 20, .inl z0)]) (nc := 7) (ns := 420) rfl rfl rfl rfl rfl ?_
    refine (And.intro (And.intro rfl (And.intro (zz_cl46 hf (Nat.le_of_ble_eq_true rfl) rfl rfl rfl) (And.intro (by decide) (And.intro (by decide) (And.intro rfl (by decide)))))) ?_)
    refine zz_wn (ls := [some (.ref 46), none]) (st := [.ref 54, .ref 46]) (ws := p46 f ++ [.inr (7, [.int 0, .ref 47, .int 0, .int 0, .int 0, .int 0, .int (-1), .ref 48, .ref 49, .ref 50, .ref 51, .ref 52, .ref 53, .null, .null, .null, .null, .null, .null, .null, .null, .null, .null, .null, .null, .null, .null, .null, .null]), .inl (0, 300, .inl z0), .inl (1, 20, .inl z0), .inl (0, 20, .inl z0), .inl (0, 20, .inl z0), .inl (0, 20, .inl z0), .inl (0, 20, .inl z0), .inl (0, 20, .inl z0), .inl (0, 120, .inl z0)]) (nc := 8) (ns := 540) rfl rfl rfl rfl rfl ?_
    refine (And.intro (And.intro rfl (And.intro (zz_cl46 hf (Nat.le_of_ble_eq_true rfl) rfl rfl rfl) (And.intro (by decide) (And.intro (by decide) (And.intro rfl (by decide)))))) ?_)
    refine zz_wn (ls := [some (.ref 46), none]) (st := [.ref 55, .ref 46]) (ws := p46 f ++ [.inr (7, [.int 0, .ref 47, .int 0, .int 0, .int 0, .int 0, .int (-1), .ref 48, .ref 49, .ref 50, .ref 51, .ref 52, .ref 53, .ref 54, .null, .null, .null, .null, .null, .null, .null, .null, .null, .null, .null, .null, .null, .null, .null]), .inl (0, 300, .inl z0), .inl (1, 20, .inl z0), .inl (0, 20, .inl z0), .inl (0, 20, .inl z0), .inl (0, 20, .inl z0), .inl (0, 20, .inl z0), .inl (0, 20, .inl z0), .inl (0, 120, .inl z0), .inl (0, 120, .inl z0)]) (nc := 9) (ns := 660) rfl rfl rfl rfl rfl ?_
    refine (And.intro (And.intro rfl (And.intro (zz_cl46 hf (Nat.le_of_ble_eq_true rfl) rfl rfl rfl) (And.intro (by decide) (And.intro (by decide) (And.intro rfl (by decide)))))) ?_)
    refine zz_wn (ls := [some (.ref 46), none]) (st := [.ref 56, .ref 46]) (ws := p46 f ++ [.inr (7, [.int 0, .ref 47, .int 0, .int 0, .int 0, .int 0, .int (-1), .ref 48, .ref 49, .ref 50, .ref 51, .ref 52, .ref 53, .ref 54, .ref 55, .null, .null, .null, .null, .null, .null, .null, .null, .null, .null, .null, .null, .null, .null]), .inl (0, 300, .inl z0), .inl (1, 20, .inl z0), .inl (0, 20, .inl z0), .inl (0, 20, .inl z0), .inl (0, 20, .inl z0), .inl (0, 20, .inl z0), .inl (0, 20, .inl z0), .inl (0, 120, .inl z0), .inl (0, 120, .inl z0), .inl (0, 120, .inl z0)]) (nc := 10) (ns := 780) rfl rfl rfl rfl rfl ?_
    refine (And.intro (And.intro rfl (And.intro (zz_cl46 hf (Nat.le_of_ble_eq_true rfl) rfl rfl rfl) (And.intro (by decide) (And.intro (by decide) (And.intro rfl (by decide)))))) ?_)
    refine zz_wn (ls := [some (.ref 46), none]) (st := [.ref 57, .ref 46]) (ws := p46 f ++ [.inr (7, [.int 0, .ref 47, .int 0, .int 0, .int 0, .int 0, .int (-1), .ref 48, .ref 49, .ref 50, .ref 51, .ref 52, .ref 53, .ref 54, .ref 55, .ref 56, .null, .null, .null, .null, .null, .null, .null, .null, .null, .null, .null, .null, .null]), .inl (0, 300, .inl z0), .inl (1, 20, .inl z0), .inl (0, 20, .inl z0), .inl (0, 20, .inl z0), .inl (0, 20, .inl z0), .inl (0, 20, .inl z0), .inl (0, 20, .inl z0), .inl (0, 120, .inl z0), .inl (0, 120, .inl z0), .inl (0, 120, .inl z0), .inl (1, 120, .inl z0)]) (nc := 11) (ns := 900) rfl rfl rfl rfl rfl ?_
    refine (And.intro (And.intro rfl (And.intro (zz_cl46 hf (Nat.le_of_ble_eq_true rfl) rfl rfl rfl) (And.intro (by decide) (And.intro (by decide) (And.intro rfl (by decide)))))) ?_)
    refine zz_wn (ls := [some (.ref 46), none]) (st := [.ref 58, .ref 46]) (ws := p46 f ++ [.inr (7, [.int 0, .ref 47, .int 0, .int 0, .int 0, .int 0, .int (-1), .ref 48, .ref 49, .ref 50, .ref 51, .ref 52, .ref 53, .ref 54, .ref 55, .ref 56, .ref 57, .null, .null, .null, .null, .null, .null, .null, .null, .null, .null, .null, .null]), .inl (0, 300, .inl z0), .inl (1, 20, .inl z0), .inl (0, 20, .inl z0), .inl (0, 20, .inl z0), .inl (0, 20, .inl z0), .inl (0, 20, .inl z0), .inl (0, 20, .inl z0), .inl (0, 120, .inl z0), .inl (0, 120, .inl z0), .inl (0, 120, .inl z0), .inl (1, 120, .inl z0), .inl (0, 2, .inl z0)]) (nc := 12) (ns := 902) rfl rfl rfl rfl rfl ?_
    refine (And.intro (And.intro rfl (And.intro (zz_cl46 hf (Nat.le_of_ble_eq_true rfl) rfl rfl rfl) (And.intro (by decide) (And.intro (by decide) (And.intro rfl (by decide)))))) ?_)
    refine zz_wn (ls := [some (.ref 46), none]) (st := [.ref 59, .ref 46]) (ws := p46 f ++ [.inr (7, [.int 0, .ref 47, .int 0, .int 0, .int 0, .int 0, .int (-1), .ref 48, .ref 49, .ref 50, .ref 51, .ref 52, .ref 53, .ref 54, .ref 55, .ref 56, .ref 57, .ref 58, .null, .null, .null, .null, .null, .null, .null, .null, .null, .null, .null]), .inl (0, 300, .inl z0), .inl (1, 20, .inl z0), .inl (0, 20, .inl z0), .inl (0, 20, .inl z0), .inl (0, 20, .inl z0), .inl (0, 20, .inl z0), .inl (0, 20, .inl z0), .inl (0, 120, .inl z0), .inl (0, 120, .inl z0), .inl (0, 120, .inl z0), .inl (1, 120, .inl z0), .inl (0, 2, .inl z0), .inl (0, 20, .inl z0)]) (nc := 13) (ns := 922) rfl rfl rfl rfl rfl ?_
    refine (And.intro (And.intro rfl (And.intro (zz_cl46 hf (Nat.le_of_ble_eq_true rfl) rfl rfl rfl) (And.intro (by decide) (And.intro (by decide) (And.intro rfl (by decide)))))) ?_)
    refine zz_wn (ls := [some (.ref 46), none]) (st := [.ref 60, .ref 46]) (ws := p46 f ++ [.inr (7, [.int 0, .ref 47, .int 0, .int 0, .int 0, .int 0, .int (-1), .ref 48, .ref 49, .ref 50, .ref 51, .ref 52, .ref 53, .ref 54, .ref 55, .ref 56, .ref 57, .ref 58, .ref 59, .null, .null, .null, .null, .null, .null, .null, .null, .null, .null]), .inl (0, 300, .inl z0), .inl (1, 20, .inl z0), .inl (0, 20, .inl z0), .inl (0, 20, .inl z0), .inl (0, 20, .inl z0), .inl (0, 20, .inl z0), .inl (0, 20, .inl z0), .inl (0, 120, .inl z0), .inl (0, 120, .inl z0), .inl (0, 120, .inl z0), .inl (1, 120, .inl z0), .inl (0, 2, .inl z0), .inl (0, 20, .inl z0), .inl (0, 20, .inl z0)]) (nc := 14) (ns := 942) rfl rfl rfl rfl rfl ?_
    refine (And.intro (And.intro rfl (And.intro (zz_cl46 hf (Nat.le_of_ble_eq_true rfl) rfl rfl rfl) (And.intro (by decide) (And.intro (by decide) (And.intro rfl (by decide)))))) ?_)
    refine zz_wn (ls := [some (.ref 46), none]) (st := [.ref 61, .ref 46]) (ws := p46 f ++ [.inr (7, [.int 0, .ref 47, .int 0, .int 0, .int 0, .int 0, .int (-1), .ref 48, .ref 49, .ref 50, .ref 51, .ref 52, .ref 53, .ref 54, .ref 55, .ref 56, .ref 57, .ref 58, .ref 59, .ref 60, .null, .null, .null, .null, .null, .null, .null, .null, .null]), .inl (0, 300, .inl z0), .inl (1, 20, .inl z0), .inl (0, 20, .inl z0), .inl (0, 20, .inl z0), .inl (0, 20, .inl z0), .inl (0, 20, .inl z0), .inl (0, 20, .inl z0), .inl (0, 120, .inl z0), .inl (0, 120, .inl z0), .inl (0, 120, .inl z0), .inl (1, 120, .inl z0), .inl (0, 2, .inl z0), .inl (0, 20, .inl z0), .inl (0, 20, .inl z0), .inl (0, 20, .inl z0)]) (nc := 15) (ns := 962) rfl rfl rfl rfl rfl ?_
    refine (And.intro (And.intro rfl (And.intro (zz_cl46 hf (Nat.le_of_ble_eq_true rfl) rfl rfl rfl) (And.intro (by decide) (And.intro (by decide) (And.intro rfl (by decide)))))) ?_)
    refine zz_wn (ls := [some (.ref 46), none]) (st := [.ref 62, .ref 46]) (ws := p46 f ++ [.inr (7, [.int 0, .ref 47, .int 0, .int 0, .int 0, .int 0, .int (-1), .ref 48, .ref 49, .ref 50, .ref 51, .ref 52, .ref 53, .ref 54, .ref 55, .ref 56, .ref 57, .ref 58, .ref 59, .ref 60, .ref 61, .null, .null, .null, .null, .null, .null, .null, .null]), .inl (0, 300, .inl z0), .inl (1, 20, .inl z0), .inl (0, 20, .inl z0), .inl (0, 20, .inl z0), .inl (0, 20, .inl z0), .inl (0, 20, .inl z0), .inl (0, 20, .inl z0), .inl (0, 120, .inl z0), .inl (0, 120, .inl z0), .inl (0, 120, .inl z0), .inl (1, 120, .inl z0), .inl (0, 2, .inl z0), .inl (0, 20, .inl z0), .inl (0, 20, .inl z0), .inl (0, 20, .inl z0), .inl (0, 20, .inl z0)]) (nc := 16) (ns := 982) rfl rfl rfl rfl rfl ?_
    refine (And.intro (And.intro rfl (And.intro (zz_cl46 hf (Nat.le_of_ble_eq_true rfl) rfl rfl rfl) (And.intro (by decide) (And.intro (by decide) (And.intro rfl (by decide)))))) ?_)
    refine zz_wn (ls := [some (.ref 46), none]) (st := [.ref 63, .ref 46]) (ws := p46 f ++ [.inr (7, [.int 0, .ref 47, .int 0, .int 0, .int 0, .int 0, .int (-1), .ref 48, .ref 49, .ref 50, .ref 51, .ref 52, .ref 53, .ref 54, .ref 55, .ref 56, .ref 57, .ref 58, .ref 59, .ref 60, .ref 61, .ref 62, .null, .null, .null, .null, .null, .null, .null]), .inl (0, 300, .inl z0), .inl (1, 20, .inl z0), .inl (0, 20, .inl z0), .inl (0, 20, .inl z0), .inl (0, 20, .inl z0), .inl (0, 20, .inl z0), .inl (0, 20, .inl z0), .inl (0, 120, .inl z0), .inl (0, 120, .inl z0), .inl (0, 120, .inl z0), .inl (1, 120, .inl z0), .inl (0, 2, .inl z0), .inl (0, 20, .inl z0), .inl (0, 20, .inl z0), .inl (0, 20, .inl z0), .inl (0, 20, .inl z0), .inl (0, 50, .inl z0)]) (nc := 17) (ns := 1032) rfl rfl rfl rfl rfl ?_
    refine (And.intro (And.intro rfl (And.intro (zz_cl46 hf (Nat.le_of_ble_eq_true rfl) rfl rfl rfl) (And.intro (by decide) (And.intro (by decide) (And.intro rfl (by decide)))))) ?_)
    refine zz_wn (ls := [some (.ref 46), none]) (st := [.ref 64, .ref 46]) (ws := p46 f ++ [.inr (7, [.int 0, .ref 47, .int 0, .int 0, .int 0, .int 0, .int (-1), .ref 48, .ref 49, .ref 50, .ref 51, .ref 52, .ref 53, .ref 54, .ref 55, .ref 56, .ref 57, .ref 58, .ref 59, .ref 60, .ref 61, .ref 62, .ref 63, .null, .null, .null, .null, .null, .null]), .inl (0, 300, .inl z0), .inl (1, 20, .inl z0), .inl (0, 20, .inl z0), .inl (0, 20, .inl z0), .inl (0, 20, .inl z0), .inl (0, 20, .inl z0), .inl (0, 20, .inl z0), .inl (0, 120, .inl z0), .inl (0, 120, .inl z0), .inl (0, 120, .inl z0), .inl (1, 120, .inl z0), .inl (0, 2, .inl z0), .inl (0, 20, .inl z0), .inl (0, 20, .inl z0), .inl (0, 20, .inl z0), .inl (0, 20, .inl z0), .inl (0, 50, .inl z0), .inl (0, 50, .inl z0)]) (nc := 18) (ns := 1082) rfl rfl rfl rfl rfl ?_
    refine (And.intro (And.intro rfl (And.intro (zz_cl46 hf (Nat.le_of_ble_eq_true rfl) rfl rfl rfl) (And.intro (by decide) (And.intro (by decide) (And.intro rfl (by decide)))))) ?_)
    refine zz_wn (ls := [some (.ref 46), none]) (st := [.ref 65, .ref 46]) (ws := p46 f ++ [.inr (7, [.int 0, .ref 47, .int 0, .int 0, .int 0, .int 0, .int (-1), .ref 48, .ref 49, .ref 50, .ref 51, .ref 52, .ref 53, .ref 54, .ref 55, .ref 56, .ref 57, .ref 58, .ref 59, .ref 60, .ref 61, .ref 62, .ref 63, .ref 64, .null, .null, .null, .null, .null]), .inl (0, 300, .inl z0), .inl (1, 20, .inl z0), .inl (0, 20, .inl z0), .inl (0, 20, .inl z0), .inl (0, 20, .inl z0), .inl (0, 20, .inl z0), .inl (0, 20, .inl z0), .inl (0, 120, .inl z0), .inl (0, 120, .inl z0), .inl (0, 120, .inl z0), .inl (1, 120, .inl z0), .inl (0, 2, .inl z0), .inl (0, 20, .inl z0), .inl (0, 20, .inl z0), .inl (0, 20, .inl z0), .inl (0, 20, .inl z0), .inl (0, 50, .inl z0), .inl (0, 50, .inl z0), .inl (0, 500, .inl z0)]) (nc := 19) (ns := 1582) rfl rfl rfl rfl rfl ?_
    refine (And.intro (And.intro rfl (And.intro (zz_cl46 hf (Nat.le_of_ble_eq_true rfl) rfl rfl rfl) (And.intro (by decide) (And.intro (by decide) (And.intro rfl (by decide)))))) ?_)
    refine zz_wn (ls := [some (.ref 46), none]) (st := [.ref 66, .ref 46]) (ws := p46 f ++ [.inr (7, [.int 0, .ref 47, .int 0, .int 0, .int 0, .int 0, .int (-1), .ref 48, .ref 49, .ref 50, .ref 51, .ref 52, .ref 53, .ref 54, .ref 55, .ref 56, .ref 57, .ref 58, .ref 59, .ref 60, .ref 61, .ref 62, .ref 63, .ref 64, .ref 65, .null, .null, .null, .null]), .inl (0, 300, .inl z0), .inl (1, 20, .inl z0), .inl (0, 20, .inl z0), .inl (0, 20, .inl z0), .inl (0, 20, .inl z0), .inl (0, 20, .inl z0), .inl (0, 20, .inl z0), .inl (0, 120, .inl z0), .inl (0, 120, .inl z0), .inl (0, 120, .inl z0), .inl (1, 120, .inl z0), .inl (0, 2, .inl z0), .inl (0, 20, .inl z0), .inl (0, 20, .inl z0), .inl (0, 20, .inl z0), .inl (0, 20, .inl z0), .inl (0, 50, .inl z0), .inl (0, 50, .inl z0), .inl (0, 500, .inl z0), .inl (0, 50, .inl z0)]) (nc := 20) (ns := 1632) rfl rfl rfl rfl rfl ?_
    refine (And.intro (And.intro rfl (And.intro (zz_cl46 hf (Nat.le_of_ble_eq_true rfl) rfl rfl rfl) (And.intro (by decide) (And.intro (by decide) (And.intro rfl (by decide)))))) ?_)
    refine zz_wn (ls := [some (.ref 46), none]) (st := [.ref 67, .ref 46]) (ws := p46 f ++ [.inr (7, [.int 0, .ref 47, .int 0, .int 0, .int 0, .int 0, .int (-1), .ref 48, .ref 49, .ref 50, .ref 51, .ref 52, .ref 53, .ref 54, .ref 55, .ref 56, .ref 57, .ref 58, .ref 59, .ref 60, .ref 61, .ref 62, .ref 63, .ref 64, .ref 65, .ref 66, .null, .null, .null]), .inl (0, 300, .inl z0), .inl (1, 20, .inl z0), .inl (0, 20, .inl z0), .inl (0, 20, .inl z0), .inl (0, 20, .inl z0), .inl (0, 20, .inl z0), .inl (0, 20, .inl z0), .inl (0, 120, .inl z0), .inl (0, 120, .inl z0), .inl (0, 120, .inl z0), .inl (1, 120, .inl z0), .inl (0, 2, .inl z0), .inl (0, 20, .inl z0), .inl (0, 20, .inl z0), .inl (0, 20, .inl z0), .inl (0, 20, .inl z0), .inl (0, 50, .inl z0), .inl (0, 50, .inl z0), .inl (0, 500, .inl z0), .inl (0, 50, .inl z0), .inl (0, 50, .inl z0)]) (nc := 21) (ns := 1682) rfl rfl rfl rfl rfl ?_
    refine (And.intro (And.intro rfl (And.intro (zz_cl46 hf (Nat.le_of_ble_eq_true rfl) rfl rfl rfl) (And.intro (by decide) (And.intro (by decide) (And.intro rfl (by decide)))))) ?_)
    refine zz_wn (ls := [some (.ref 46), none]) (st := [.ref 68, .ref 46]) (ws := p46 f ++ [.inr (7, [.int 0, .ref 47, .int 0, .int 0, .int 0, .int 0, .int (-1), .ref 48, .ref 49, .ref 50, .ref 51, .ref 52, .ref 53, .ref 54, .ref 55, .ref 56, .ref 57, .ref 58, .ref 59, .ref 60, .ref 61, .ref 62, .ref 63, .ref 64, .ref 65, .ref 66, .ref 67, .null, .null]), .inl (0, 300, .inl z0), .inl (1, 20, .inl z0), .inl (0, 20, .inl z0), .inl (0, 20, .inl z0), .inl (0, 20, .inl z0), .inl (0, 20, .inl z0), .inl (0, 20, .inl z0), .inl (0, 120, .inl z0), .inl (0, 120, .inl z0), .inl (0, 120, .inl z0), .inl (1, 120, .inl z0), .inl (0, 2, .inl z0), .inl (0, 20, .inl z0), .inl (0, 20, .inl z0), .inl (0, 20, .inl z0), .inl (0, 20, .inl z0), .inl (0, 50, .inl z0), .inl (0, 50, .inl z0), .inl (0, 500, .inl z0), .inl (0, 50, .inl z0), .inl (0, 50, .inl z0), .inl (0, 20, .inl z0)]) (nc := 22) (ns := 1702) rfl rfl rfl rfl rfl ?_
    refine (And.intro (And.intro rfl (And.intro (zz_cl46 hf (Nat.le_of_ble_eq_true rfl) rfl rfl rfl) (And.intro (by decide) (And.intro (by decide) (And.intro rfl (by decide)))))) ?_)
    refine zz_wn (ls := [some (.ref 46), none]) (st := [.ref 69, .ref 46]) (ws := p46 f ++ [.inr (7, [.int 0, .ref 47, .int 0, .int 0, .int 0, .int 0, .int (-1), .ref 48, .ref 49, .ref 50, .ref 51, .ref 52, .ref 53, .ref 54, .ref 55, .ref 56, .ref 57, .ref 58, .ref 59, .ref 60, .ref 61, .ref 62, .ref 63, .ref 64, .ref 65, .ref 66, .ref 67, .ref 68, .null]), .inl (0, 300, .inl z0), .inl (1, 20, .inl z0), .inl (0, 20, .inl z0), .inl (0, 20, .inl z0), .inl (0, 20, .inl z0), .inl (0, 20, .inl z0), .inl (0, 20, .inl z0), .inl (0, 120, .inl z0), .inl (0, 120, .inl z0), .inl (0, 120, .inl z0), .inl (1, 120, .inl z0), .inl (0, 2, .inl z0), .inl (0, 20, .inl z0), .inl (0, 20, .inl z0), .inl (0, 20, .inl z0), .inl (0, 20, .inl z0), .inl (0, 50, .inl z0), .inl (0, 50, .inl z0), .inl (0, 500, .inl z0), .inl (0, 50, .inl z0), .inl (0, 50, .inl z0), .inl (0, 20, .inl z0), .inl (1, 1000, .inl z0)]) (nc := 23) (ns := 2702) rfl rfl rfl rfl rfl ?_
    exact Exists.intro 150 (And.intro trivial ⟨0, by decide, rfl, rfl, rfl, by (first | (rw [zj_0]; done) | (rw [zj_0]; rfl)), rfl, rfl⟩)
theorem recv_Mo_init : ∀ As ws k x, pt_Mo_init As ws k x → (∃ q As', As = .ref q :: As') ∧ pt_Mo_init As ws k (fun _ _ => False) := by
  rintro As ws k x ⟨f, hf, rfl, rfl, hk⟩
  exact ⟨⟨_, _, rfl⟩, f, hf, rfl, rfl, hk⟩
