/-! ===== the model: who is in, who counts ===== -/
def bi (im : qA) (c p : Nat) : Bool := !decide (im (50 * c + p) = 0)
/-- how many below j -/
def nN (f : Nat → Bool) : Nat → Nat
  | 0 => 0
  | j + 1 => bif f j then nN f j + 1 else nN f j
theorem nN_t {f : Nat → Bool} {j : Nat} (h : f j = true) : nN f (j + 1) = nN f j + 1 := by
  show (bif f j then nN f j + 1 else nN f j) = _
  rw [h]; rfl
theorem nN_f {f : Nat → Bool} {j : Nat} (h : f j = false) : nN f (j + 1) = nN f j := by
  show (bif f j then nN f j + 1 else nN f j) = _
  rw [h]; rfl
theorem nN_le (f : Nat → Bool) : ∀ j, nN f j ≤ j
  | 0 => Nat.le_refl _
  | j + 1 => by
    have := nN_le f j
    cases h : f j with
    | true => rw [nN_t h]; omega
    | false => rw [nN_f h]; omega
theorem nI_0a (q : Nat) : nI q = nI q + 0 := (Int32.add_zero _).symm
theorem aN_s {f : Nat → Bool} {j : Nat} : aN f (j + 1) = (aN f j || f j) := rfl
def kO (im : qA) (p : Nat) : Nat := nN (fun c => bi im c p) 20
def lr (mr : qA) (p : Nat) : Bool := decide (mr p - mr p / 2 * 2 = 1)
def kF (im mr : qA) (c p : Nat) : Bool := bi im c p && (decide (kO im p = 1) && !lr mr p)
def kM (im mr : qA) (c : Nat) : Bool := aN (fun p => kF im mr c p && !decide (mr p < 2)) 50
def kC (im mr : qA) (c p : Nat) : Bool := kF im mr c p || (bi im c p && (decide (kO im p = 1) && kM im mr c))
def kN (im mr : qA) (c : Nat) : Nat := nN (kC im mr c) 50
theorem kO_le (im : qA) (p : Nat) : kO im p ≤ 20 := nN_le _ _
def pt_Mo_sizeOf : zz_PT := fun As ws k _ => ∃ (f : Nat → va_E) (R : List va_E) (t : qM) (c : Nat), c < 20 ∧ As = [.ref 46, .int (nI c)] ∧ ws = gW f t R ∧ k (some (.int (nI (nN (bi t.2.2.2.2.2 c) 50)))) ws
set_option maxHeartbeats 4000000 in
set_option maxRecDepth 100000 in
theorem m_Mo_sizeOf (l : Launch) : zz_M zz_CL l y_Mo_sizeOf (Cond.code y_Mo_sizeOf c_Mo_sizeOf 4 (some .int) :: zz_big) (zz_rm 1 20 1 6) (2, false, 0, 0, pt_Mo_sizeOf) := by
  refine zz_M_of (HOST := "CrewRules") (L := []) (sw := sw_Mo_sizeOf) (pg := pg_Mo_sizeOf) (th := th_Mo_sizeOf) (ini := false) (by decide +kernel) zz_static (fun h => nomatch h) (by decide) (by decide) ok_Mo_sizeOf zz_nil (fun pc E h => (nomatch h)) (zz_VC1 60 4 [true, true, true, true] rfl ?_)
  rintro As ws k x ⟨f, R, ⟨⟨th, tp, ln, aa, wr, pl⟩, ta, ⟨⟨td, le, ge, re, lg, ne⟩, ⟨nn, nk, nr, nx⟩, su, ⟨wa, ot, fm, tz⟩⟩, ⟨rk, mr, un, bg, bf⟩, kd, im⟩, c, hc, rfl, rfl, hk⟩
  dsimp only at hk
  refine ⟨Nat.le_of_ble_eq_true rfl, fun z ls st ws nc ns => ∃ (j : Nat), j ≤ 50 ∧ z = 50 - j ∧ ls = [some (.ref 46), some (.int (nI c)), some (.int (nI (nN (bi im c) j))), some (.int (nI j))] ∧ st = [] ∧ ws = gW f ((th, tp, ln, aa, wr, pl), ta, ((td, le, ge, re, lg, ne), (nn, nk, nr, nx), su, (wa, ot, fm, tz)), (rk, mr, un, bg, bf), kd, im) R ∧ nc = 0 ∧ ns = 0, ?_, ?_⟩
  · rintro z ls st ws nc ns ⟨j, hj, rfl, rfl, rfl, rfl, rfl, rfl⟩
    refine And.intro (fun (c1 : 50 ≤ nI j) => ?_) (fun (c1 : ¬ 50 ≤ nI j) => ?_)
    · have : j = 50 := by
        have := (nI_leI (a := 50) (by decide) (by omega)).mp c1
        omega
      subst this
      exact zz_e0 hk
    · have hj2 : j < 50 := Nat.lt_of_not_le (fun z : 50 ≤ j => c1 (nI_le z (by omega)))
      have ej : (nI j).toNatClampNeg = j := nI_clamp (by omega)
      have e1 : (50 : Int32) * nI c + nI j = nI (50 * c + j) := by
        show nI 50 * nI c + nI j = _
        rw [pk_mul, nI_add]
      have e2 : (nI (50 * c + j)).toNatClampNeg = 50 * c + j := nI_clamp (by omega)
      have i1 : vp_in ((50 : Int32) * nI c + nI j) 1000 := by rw [e1]; exact zn_in (by omega) (by decide)
      refine And.intro i1 ?_
      refine And.intro (fun (d : im ((50 : Int32) * nI c + nI j).toNatClampNeg = 0) => ?_) (fun (d : ¬ im ((50 : Int32) * nI c + nI j).toNatClampNeg = 0) => ?_)
      · rw [e1, e2] at d
        have d : bi im c j = false := by unfold bi; rw [decide_eq_true d]; rfl
        exact Exists.intro (50 - (j + 1)) (And.intro (by show 50 - (j + 1) < 50 - j; omega) ⟨j + 1, hj2, rfl, (by rw [nN_f (f := (bi im c)) (j := j) d, Int32.add_zero, ← nI_1 j]; rfl), rfl, rfl, rfl, rfl⟩)
      · rw [e1, e2] at d
        have d : bi im c j = true := by unfold bi; rw [decide_eq_false d]; rfl
        exact Exists.intro (50 - (j + 1)) (And.intro (by show 50 - (j + 1) < 50 - j; omega) ⟨j + 1, hj2, rfl, (by rw [nN_t (f := (bi im c)) (j := j) d, ← nI_1 (nN (bi im c) j), ← nI_1 j]; rfl), rfl, rfl, rfl, rfl⟩)
  · exact Exists.intro 50 (And.intro trivial ⟨0, by decide, rfl, rfl, rfl, rfl, rfl, rfl⟩)
theorem recv_Mo_sizeOf : ∀ As ws k x, pt_Mo_sizeOf As ws k x → ∃ q As' fs, As = .ref q :: As' ∧ ws[q]? = some (.inr (7, fs)) := by
  rintro As ws k x ⟨f, R, t, c, hc, rfl, rfl, hk⟩
  exact ⟨_, _, _, rfl, rfl⟩
def pt_Mo_crewsOf : zz_PT := fun As ws k _ => ∃ (f : Nat → va_E) (R : List va_E) (t : qM) (p : Nat), p < 50 ∧ As = [.ref 46, .int (nI p)] ∧ ws = gW f t R ∧ k (some (.int (nI (kO t.2.2.2.2.2 p)))) ws
set_option maxHeartbeats 4000000 in
set_option maxRecDepth 100000 in
theorem m_Mo_crewsOf (l : Launch) : zz_M zz_CL l y_Mo_crewsOf (Cond.code y_Mo_crewsOf c_Mo_crewsOf 4 (some .int) :: zz_big) (zz_rm 1 20 1 6) (2, false, 0, 0, pt_Mo_crewsOf) := by
  refine zz_M_of (HOST := "CrewRules") (L := []) (sw := sw_Mo_crewsOf) (pg := pg_Mo_crewsOf) (th := th_Mo_crewsOf) (ini := false) (by decide +kernel) zz_static (fun h => nomatch h) (by decide) (by decide) ok_Mo_crewsOf zz_nil (fun pc E h => (nomatch h)) (zz_VC1 60 4 [true, true, true, true] rfl ?_)
  rintro As ws k x ⟨f, R, ⟨⟨th, tp, ln, aa, wr, pl⟩, ta, ⟨⟨td, le, ge, re, lg, ne⟩, ⟨nn, nk, nr, nx⟩, su, ⟨wa, ot, fm, tz⟩⟩, ⟨rk, mr, un, bg, bf⟩, kd, im⟩, p, hp, rfl, rfl, hk⟩
  dsimp only at hk
  refine ⟨Nat.le_of_ble_eq_true rfl, fun z ls st ws nc ns => ∃ (j : Nat), j ≤ 20 ∧ z = 20 - j ∧ ls = [some (.ref 46), some (.int (nI p)), some (.int (nI (nN (fun c => bi im c p) j))), some (.int (nI j))] ∧ st = [] ∧ ws = gW f ((th, tp, ln, aa, wr, pl), ta, ((td, le, ge, re, lg, ne), (nn, nk, nr, nx), su, (wa, ot, fm, tz)), (rk, mr, un, bg, bf), kd, im) R ∧ nc = 0 ∧ ns = 0, ?_, ?_⟩
  · rintro z ls st ws nc ns ⟨j, hj, rfl, rfl, rfl, rfl, rfl, rfl⟩
    refine And.intro (fun (c1 : 20 ≤ nI j) => ?_) (fun (c1 : ¬ 20 ≤ nI j) => ?_)
    · have : j = 20 := by
        have := (nI_leI (a := 20) (by decide) (by omega)).mp c1
        omega
      subst this
      exact zz_e0 hk
    · have hj2 : j < 20 := Nat.lt_of_not_le (fun z : 20 ≤ j => c1 (nI_le z (by omega)))
      have ej : (nI j).toNatClampNeg = j := nI_clamp (by omega)
      have e1 : (50 : Int32) * nI j + nI p = nI (50 * j + p) := by
        show nI 50 * nI j + nI p = _
        rw [pk_mul, nI_add]
      have e2 : (nI (50 * j + p)).toNatClampNeg = 50 * j + p := nI_clamp (by omega)
      have i1 : vp_in ((50 : Int32) * nI j + nI p) 1000 := by rw [e1]; exact zn_in (by omega) (by decide)
      refine And.intro i1 ?_
      refine And.intro (fun (d : im ((50 : Int32) * nI j + nI p).toNatClampNeg = 0) => ?_) (fun (d : ¬ im ((50 : Int32) * nI j + nI p).toNatClampNeg = 0) => ?_)
      · rw [e1, e2] at d
        have d : bi im j p = false := by unfold bi; rw [decide_eq_true d]; rfl
        exact Exists.intro (20 - (j + 1)) (And.intro (by show 20 - (j + 1) < 20 - j; omega) ⟨j + 1, hj2, rfl, (by rw [nN_f (f := (fun c => bi im c p)) (j := j) d, Int32.add_zero, ← nI_1 j]; rfl), rfl, rfl, rfl, rfl⟩)
      · rw [e1, e2] at d
        have d : bi im j p = true := by unfold bi; rw [decide_eq_false d]; rfl
        exact Exists.intro (20 - (j + 1)) (And.intro (by show 20 - (j + 1) < 20 - j; omega) ⟨j + 1, hj2, rfl, (by rw [nN_t (f := (fun c => bi im c p)) (j := j) d, ← nI_1 (nN (fun c => bi im c p) j), ← nI_1 j]; rfl), rfl, rfl, rfl, rfl⟩)
  · exact Exists.intro 20 (And.intro trivial ⟨0, by decide, rfl, rfl, rfl, rfl, rfl, rfl⟩)
theorem recv_Mo_crewsOf : ∀ As ws k x, pt_Mo_crewsOf As ws k x → ∃ q As' fs, As = .ref q :: As' ∧ ws[q]? = some (.inr (7, fs)) := by
  rintro As ws k x ⟨f, R, t, p, hp, rfl, rfl, hk⟩
  exact ⟨_, _, _, rfl, rfl⟩
def pt_Mo_isFull : zz_PT := fun As ws k _ => ∃ (f : Nat → va_E) (R : List va_E) (t : qM) (c p : Nat), c < 20 ∧ p < 50 ∧ As = [.ref 46, .int (nI c), .int (nI p)] ∧ ws = gW f t R ∧ k (some (.int (zb (kF t.2.2.2.2.2 t.2.2.2.1.2.1 c p)))) ws
set_option maxHeartbeats 4000000 in
set_option maxRecDepth 100000 in
theorem m_Mo_isFull (l : Launch) : zz_M zz_CL l y_Mo_isFull (Cond.code y_Mo_isFull c_Mo_isFull 3 (some .boolean) :: zz_big) (zz_rm 2 43 1 6) (3, false, 0, 0, pt_Mo_isFull) := by
  refine zz_M_of (HOST := "CrewRules") (L := [(0, 156, (2, false, 0, 0, pt_Mo_crewsOf))]) (sw := sw_Mo_isFull) (pg := pg_Mo_isFull) (th := th_Mo_isFull) (ini := false) (by decide +kernel) zz_static (fun h => nomatch h) (by decide) (by decide) ok_Mo_isFull (zz_cons (zz_ev_V (m_Mo_crewsOf l) yw_Mo_crewsOf yv_Mo_crewsOf lk_Mo_156 ⟨rfl, rfl, by decide, by decide⟩ (ci := 7) rfl recv_Mo_crewsOf) zz_nil) (fun pc E h => (nomatch h)) (zz_VC0 60 ?_)
  rintro As ws k x ⟨f, R, ⟨⟨th, tp, ln, aa, wr, pl⟩, ta, ⟨⟨td, le, ge, re, lg, ne⟩, ⟨nn, nk, nr, nx⟩, su, ⟨wa, ot, fm, tz⟩⟩, ⟨rk, mr, un, bg, bf⟩, kd, im⟩, c, p, hc, hp, rfl, rfl, hk⟩
  dsimp only at hk
  refine ⟨Nat.le_of_ble_eq_true rfl, ?_⟩
  have ep : (nI p).toNatClampNeg = p := nI_clamp (by omega)
  have e1 : (50 : Int32) * nI c + nI p = nI (50 * c + p) := by
    show nI 50 * nI c + nI p = _
    rw [pk_mul, nI_add]
  have e2 : (nI (50 * c + p)).toNatClampNeg = 50 * c + p := nI_clamp (by omega)
  have i1 : vp_in ((50 : Int32) * nI c + nI p) 1000 := by rw [e1]; exact zn_in (by omega) (by decide)
  refine And.intro i1 ?_
  refine And.intro (fun (d : im ((50 : Int32) * nI c + nI p).toNatClampNeg = 0) => ?_) (fun (d : ¬ im ((50 : Int32) * nI c + nI p).toNatClampNeg = 0) => ?_)
  · rw [e1, e2] at d
    have d : bi im c p = false := by unfold bi; rw [decide_eq_true d]; rfl
    rw [show kF im mr c p = false by unfold kF; rw [d]; rfl] at hk
    exact zz_eb (b := false) hk
  · rw [e1, e2] at d
    have d : bi im c p = true := by unfold bi; rw [decide_eq_false d]; rfl
    refine (And.intro (And.intro rfl (And.intro rfl (And.intro rfl (And.intro (by decide) (by decide))))) ?_)
    refine Exists.intro f (Exists.intro R (Exists.intro ((th, tp, ln, aa, wr, pl), ta, ((td, le, ge, re, lg, ne), (nn, nk, nr, nx), su, (wa, ot, fm, tz)), (rk, mr, un, bg, bf), kd, im) (Exists.intro p (And.intro (by omega) (And.intro rfl (And.intro rfl (?_)))))))
    refine And.intro (fun (d2 : ¬ nI (kO im p) = 1) => ?_) (fun (d2 : nI (kO im p) = 1) => ?_)
    · have d2 : decide (kO im p = 1) = false := decide_eq_false (fun z => d2 (by rw [z]; rfl))
      rw [show kF im mr c p = false by unfold kF; rw [d, d2]; rfl] at hk
      exact zz_eb (b := false) hk
    · have d2 : decide (kO im p = 1) = true := decide_eq_true (nI_inj9 (v := 1) (by have := kO_le im p; omega) (by decide) d2)
      refine And.intro (zn_in hp (by decide)) ?_
      refine And.intro (by decide) ?_
      refine And.intro (fun (d4 : mr (nI p).toNatClampNeg - mr (nI p).toNatClampNeg / 2 * 2 = 1) => ?_) (fun (d4 : ¬ mr (nI p).toNatClampNeg - mr (nI p).toNatClampNeg / 2 * 2 = 1) => ?_)
      · rw [ep] at d4
        rw [show kF im mr c p = false by unfold kF lr; rw [d, d2, decide_eq_true d4]; rfl] at hk
        exact zz_eb (b := false) hk
      · rw [ep] at d4
        rw [show kF im mr c p = true by unfold kF lr; rw [d, d2, decide_eq_false d4]; rfl] at hk
        exact zz_eb (b := true) hk
theorem recv_Mo_isFull : ∀ As ws k x, pt_Mo_isFull As ws k x → ∃ q As' fs, As = .ref q :: As' ∧ ws[q]? = some (.inr (7, fs)) := by
  rintro As ws k x ⟨f, R, t, c, p, hc, hp, rfl, rfl, hk⟩
  exact ⟨_, _, _, rfl, rfl⟩
def pt_Mo_hasMentor : zz_PT := fun As ws k _ => ∃ (f : Nat → va_E) (R : List va_E) (t : qM) (c : Nat), c < 20 ∧ As = [.ref 46, .int (nI c)] ∧ ws = gW f t R ∧ k (some (.int (zb (kM t.2.2.2.2.2 t.2.2.2.1.2.1 c)))) ws
set_option maxHeartbeats 4000000 in
set_option maxRecDepth 100000 in
theorem m_Mo_hasMentor (l : Launch) : zz_M zz_CL l y_Mo_hasMentor (Cond.code y_Mo_hasMentor c_Mo_hasMentor 4 (some .boolean) :: zz_big) (zz_rm 3 65 1 6) (2, false, 0, 0, pt_Mo_hasMentor) := by
  refine zz_M_of (HOST := "CrewRules") (L := [(0, 159, (3, false, 0, 0, pt_Mo_isFull))]) (sw := sw_Mo_hasMentor) (pg := pg_Mo_hasMentor) (th := th_Mo_hasMentor) (ini := false) (by decide +kernel) zz_static (fun h => nomatch h) (by decide) (by decide) ok_Mo_hasMentor (zz_cons (zz_ev_V (m_Mo_isFull l) yw_Mo_isFull yv_Mo_isFull lk_Mo_159 ⟨rfl, rfl, by decide, by decide⟩ (ci := 7) rfl recv_Mo_isFull) zz_nil) (fun pc E h => (nomatch h)) (zz_VC1 60 4 [true, true, true, true] rfl ?_)
  rintro As ws k x ⟨f, R, ⟨⟨th, tp, ln, aa, wr, pl⟩, ta, ⟨⟨td, le, ge, re, lg, ne⟩, ⟨nn, nk, nr, nx⟩, su, ⟨wa, ot, fm, tz⟩⟩, ⟨rk, mr, un, bg, bf⟩, kd, im⟩, c, hc, rfl, rfl, hk⟩
  dsimp only at hk
  refine ⟨Nat.le_of_ble_eq_true rfl, fun z ls st ws nc ns => ∃ (j : Nat), j ≤ 50 ∧ z = 50 - j ∧ ls = [some (.ref 46), some (.int (nI c)), some (.int (zb (aN (fun p => kF im mr c p && !decide (mr p < 2)) j))), some (.int (nI j))] ∧ st = [] ∧ ws = gW f ((th, tp, ln, aa, wr, pl), ta, ((td, le, ge, re, lg, ne), (nn, nk, nr, nx), su, (wa, ot, fm, tz)), (rk, mr, un, bg, bf), kd, im) R ∧ nc = 0 ∧ ns = 0, ?_, ?_⟩
  · rintro z ls st ws nc ns ⟨j, hj, rfl, rfl, rfl, rfl, rfl, rfl⟩
    refine And.intro (fun (c1 : 50 ≤ nI j) => ?_) (fun (c1 : ¬ 50 ≤ nI j) => ?_)
    · have : j = 50 := by
        have := (nI_leI (a := 50) (by decide) (by omega)).mp c1
        omega
      subst this
      exact zz_eb hk
    · have hj2 : j < 50 := Nat.lt_of_not_le (fun z : 50 ≤ j => c1 (nI_le z (by omega)))
      have ej : (nI j).toNatClampNeg = j := nI_clamp (by omega)
      cases ha : aN (fun p => kF im mr c p && !decide (mr p < 2)) j with
      | true =>
        refine And.intro (fun _ => ?_) (fun (z : zb true = 0) => absurd z (by decide))
        exact Exists.intro (50 - (j + 1)) (And.intro (by show 50 - (j + 1) < 50 - j; omega) ⟨j + 1, hj2, rfl, (by rw [show aN (fun p => kF im mr c p && !decide (mr p < 2)) (j + 1) = true from (by rw [aN_s, ha, Bool.true_or]; try rfl), ← nI_1 j]; rfl), rfl, rfl, rfl, rfl⟩)
      | false =>
        refine And.intro (fun (z : ¬ zb false = 0) => absurd rfl z) (fun _ => ?_)
        refine (And.intro (And.intro rfl (And.intro rfl (And.intro rfl (And.intro (by decide) (by decide))))) ?_)
        refine Exists.intro f (Exists.intro R (Exists.intro ((th, tp, ln, aa, wr, pl), ta, ((td, le, ge, re, lg, ne), (nn, nk, nr, nx), su, (wa, ot, fm, tz)), (rk, mr, un, bg, bf), kd, im) (Exists.intro c (Exists.intro j (And.intro hc (And.intro (by omega) (And.intro rfl (And.intro rfl (?_)))))))))
        cases hf : kF im mr c j with
        | true =>
          refine And.intro (fun (z : zb true = 0) => absurd z (by decide)) (fun _ => ?_)
          refine And.intro (zn_in hj2 (by decide)) ?_
          refine And.intro (fun (d4 : mr (nI j).toNatClampNeg < 2) => ?_) (fun (d4 : ¬ mr (nI j).toNatClampNeg < 2) => ?_)
          · rw [ej] at d4
            exact Exists.intro (50 - (j + 1)) (And.intro (by show 50 - (j + 1) < 50 - j; omega) ⟨j + 1, hj2, rfl, (by rw [show aN (fun p => kF im mr c p && !decide (mr p < 2)) (j + 1) = false from (by rw [aN_s, ha, Bool.false_or, hf, decide_eq_true d4]; try rfl), ← nI_1 j]; rfl), rfl, rfl, rfl, rfl⟩)
          · rw [ej] at d4
            exact Exists.intro (50 - (j + 1)) (And.intro (by show 50 - (j + 1) < 50 - j; omega) ⟨j + 1, hj2, rfl, (by rw [show aN (fun p => kF im mr c p && !decide (mr p < 2)) (j + 1) = true from (by rw [aN_s, ha, Bool.false_or, hf, decide_eq_false d4]; try rfl), ← nI_1 j]; rfl), rfl, rfl, rfl, rfl⟩)
        | false =>
          refine And.intro (fun _ => ?_) (fun (z : ¬ zb false = 0) => absurd rfl z)
          exact Exists.intro (50 - (j + 1)) (And.intro (by show 50 - (j + 1) < 50 - j; omega) ⟨j + 1, hj2, rfl, (by rw [show aN (fun p => kF im mr c p && !decide (mr p < 2)) (j + 1) = false from (by rw [aN_s, ha, Bool.false_or, hf]; try rfl), ← nI_1 j]; rfl), rfl, rfl, rfl, rfl⟩)
  · exact Exists.intro 50 (And.intro trivial ⟨0, by decide, rfl, rfl, rfl, rfl, rfl, rfl⟩)
theorem recv_Mo_hasMentor : ∀ As ws k x, pt_Mo_hasMentor As ws k x → ∃ q As' fs, As = .ref q :: As' ∧ ws[q]? = some (.inr (7, fs)) := by
  rintro As ws k x ⟨f, R, t, c, hc, rfl, rfl, hk⟩
  exact ⟨_, _, _, rfl, rfl⟩
def pt_Mo_doesCount : zz_PT := fun As ws k _ => ∃ (f : Nat → va_E) (R : List va_E) (t : qM) (c p : Nat), c < 20 ∧ p < 50 ∧ As = [.ref 46, .int (nI c), .int (nI p)] ∧ ws = gW f t R ∧ k (some (.int (zb (kC t.2.2.2.2.2 t.2.2.2.1.2.1 c p)))) ws
set_option maxHeartbeats 4000000 in
set_option maxRecDepth 100000 in
theorem m_Mo_doesCount (l : Launch) : zz_M zz_CL l y_Mo_doesCount (Cond.code y_Mo_doesCount c_Mo_doesCount 3 (some .boolean) :: zz_big) (zz_rm 4 88 1 6) (3, false, 0, 0, pt_Mo_doesCount) := by
  refine zz_M_of (HOST := "CrewRules") (L := [(0, 159, (3, false, 0, 0, pt_Mo_isFull)), (0, 156, (2, false, 0, 0, pt_Mo_crewsOf)), (0, 163, (2, false, 0, 0, pt_Mo_hasMentor))]) (sw := sw_Mo_doesCount) (pg := pg_Mo_doesCount) (th := th_Mo_doesCount) (ini := false) (by decide +kernel) zz_static (fun h => nomatch h) (by decide) (by decide) ok_Mo_doesCount (zz_cons (zz_ev_V (m_Mo_isFull l) yw_Mo_isFull yv_Mo_isFull lk_Mo_159 ⟨rfl, rfl, by decide, by decide⟩ (ci := 7) rfl recv_Mo_isFull) (zz_cons (zz_ev_V (m_Mo_crewsOf l) yw_Mo_crewsOf yv_Mo_crewsOf lk_Mo_156 ⟨rfl, rfl, by decide, by decide⟩ (ci := 7) rfl recv_Mo_crewsOf) (zz_cons (zz_ev_V (m_Mo_hasMentor l) yw_Mo_hasMentor yv_Mo_hasMentor lk_Mo_163 ⟨rfl, rfl, by decide, by decide⟩ (ci := 7) rfl recv_Mo_hasMentor) zz_nil))) (fun pc E h => (nomatch h)) (zz_VC0 60 ?_)
  rintro As ws k x ⟨f, R, ⟨⟨th, tp, ln, aa, wr, pl⟩, ta, ⟨⟨td, le, ge, re, lg, ne⟩, ⟨nn, nk, nr, nx⟩, su, ⟨wa, ot, fm, tz⟩⟩, ⟨rk, mr, un, bg, bf⟩, kd, im⟩, c, p, hc, hp, rfl, rfl, hk⟩
  dsimp only at hk
  refine ⟨Nat.le_of_ble_eq_true rfl, ?_⟩
  refine (And.intro (And.intro rfl (And.intro rfl (And.intro rfl (And.intro (by decide) (by decide))))) ?_)
  refine Exists.intro f (Exists.intro R (Exists.intro ((th, tp, ln, aa, wr, pl), ta, ((td, le, ge, re, lg, ne), (nn, nk, nr, nx), su, (wa, ot, fm, tz)), (rk, mr, un, bg, bf), kd, im) (Exists.intro c (Exists.intro p (And.intro hc (And.intro hp (And.intro rfl (And.intro rfl (?_)))))))))
  cases hf : kF im mr c p with
  | true =>
    refine And.intro (fun _ => ?_) (fun (z : zb true = 0) => absurd z (by decide))
    rw [show kC im mr c p = true by unfold kC; rw [hf]; rfl] at hk
    exact zz_eb (b := true) hk
  | false =>
    refine And.intro (fun (z : ¬ zb false = 0) => absurd rfl z) (fun _ => ?_)
    have e1 : (50 : Int32) * nI c + nI p = nI (50 * c + p) := by
      show nI 50 * nI c + nI p = _
      rw [pk_mul, nI_add]
    have e2 : (nI (50 * c + p)).toNatClampNeg = 50 * c + p := nI_clamp (by omega)
    have i1 : vp_in ((50 : Int32) * nI c + nI p) 1000 := by rw [e1]; exact zn_in (by omega) (by decide)
    refine And.intro i1 ?_
    refine And.intro (fun (d : im ((50 : Int32) * nI c + nI p).toNatClampNeg = 0) => ?_) (fun (d : ¬ im ((50 : Int32) * nI c + nI p).toNatClampNeg = 0) => ?_)
    · rw [e1, e2] at d
      have d : bi im c p = false := by unfold bi; rw [decide_eq_true d]; rfl
      rw [show kC im mr c p = false by unfold kC; rw [hf, d]; rfl] at hk
      exact zz_eb (b := false) hk
    · rw [e1, e2] at d
      have d : bi im c p = true := by unfold bi; rw [decide_eq_false d]; rfl
      refine (And.intro (And.intro rfl (And.intro rfl (And.intro rfl (And.intro (by decide) (by decide))))) ?_)
      refine Exists.intro f (Exists.intro R (Exists.intro ((th, tp, ln, aa, wr, pl), ta, ((td, le, ge, re, lg, ne), (nn, nk, nr, nx), su, (wa, ot, fm, tz)), (rk, mr, un, bg, bf), kd, im) (Exists.intro p (And.intro (by omega) (And.intro rfl (And.intro rfl (?_)))))))
      refine And.intro (fun (d2 : ¬ nI (kO im p) = 1) => ?_) (fun (d2 : nI (kO im p) = 1) => ?_)
      · have d2 : decide (kO im p = 1) = false := decide_eq_false (fun z => d2 (by rw [z]; rfl))
        rw [show kC im mr c p = false by unfold kC; rw [hf, d, d2]; rfl] at hk
        exact zz_eb (b := false) hk
      · have d2 : decide (kO im p = 1) = true := decide_eq_true (nI_inj9 (v := 1) (by have := kO_le im p; omega) (by decide) d2)
        refine (And.intro (And.intro rfl (And.intro rfl (And.intro rfl (And.intro (by decide) (by decide))))) ?_)
        refine Exists.intro f (Exists.intro R (Exists.intro ((th, tp, ln, aa, wr, pl), ta, ((td, le, ge, re, lg, ne), (nn, nk, nr, nx), su, (wa, ot, fm, tz)), (rk, mr, un, bg, bf), kd, im) (Exists.intro c (And.intro hc (And.intro rfl (And.intro rfl (?_)))))))
        cases hm : kM im mr c with
        | true =>
          refine And.intro (fun (z : zb true = 0) => absurd z (by decide)) (fun _ => ?_)
          rw [show kC im mr c p = true by unfold kC; rw [hf, d, d2, hm]; rfl] at hk
          exact zz_eb (b := true) hk
        | false =>
          refine And.intro (fun _ => ?_) (fun (z : ¬ zb false = 0) => absurd rfl z)
          rw [show kC im mr c p = false by unfold kC; rw [hf, d, d2, hm]; rfl] at hk
          exact zz_eb (b := false) hk
theorem recv_Mo_doesCount : ∀ As ws k x, pt_Mo_doesCount As ws k x → ∃ q As' fs, As = .ref q :: As' ∧ ws[q]? = some (.inr (7, fs)) := by
  rintro As ws k x ⟨f, R, t, c, p, hc, hp, rfl, rfl, hk⟩
  exact ⟨_, _, _, rfl, rfl⟩
def pt_Mo_counting : zz_PT := fun As ws k _ => ∃ (f : Nat → va_E) (R : List va_E) (t : qM) (c : Nat), c < 20 ∧ As = [.ref 46, .int (nI c)] ∧ ws = gW f t R ∧ k (some (.int (nI (kN t.2.2.2.2.2 t.2.2.2.1.2.1 c)))) ws
set_option maxHeartbeats 4000000 in
set_option maxRecDepth 100000 in
theorem m_Mo_counting (l : Launch) : zz_M zz_CL l y_Mo_counting (Cond.code y_Mo_counting c_Mo_counting 4 (some .int) :: zz_big) (zz_rm 5 110 1 6) (2, false, 0, 0, pt_Mo_counting) := by
  refine zz_M_of (HOST := "CrewRules") (L := [(0, 169, (3, false, 0, 0, pt_Mo_doesCount))]) (sw := sw_Mo_counting) (pg := pg_Mo_counting) (th := th_Mo_counting) (ini := false) (by decide +kernel) zz_static (fun h => nomatch h) (by decide) (by decide) ok_Mo_counting (zz_cons (zz_ev_V (m_Mo_doesCount l) yw_Mo_doesCount yv_Mo_doesCount lk_Mo_169 ⟨rfl, rfl, by decide, by decide⟩ (ci := 7) rfl recv_Mo_doesCount) zz_nil) (fun pc E h => (nomatch h)) (zz_VC1 60 4 [true, true, true, true] rfl ?_)
  rintro As ws k x ⟨f, R, ⟨⟨th, tp, ln, aa, wr, pl⟩, ta, ⟨⟨td, le, ge, re, lg, ne⟩, ⟨nn, nk, nr, nx⟩, su, ⟨wa, ot, fm, tz⟩⟩, ⟨rk, mr, un, bg, bf⟩, kd, im⟩, c, hc, rfl, rfl, hk⟩
  dsimp only at hk
  refine ⟨Nat.le_of_ble_eq_true rfl, fun z ls st ws nc ns => ∃ (j : Nat), j ≤ 50 ∧ z = 50 - j ∧ ls = [some (.ref 46), some (.int (nI c)), some (.int (nI (nN (kC im mr c) j))), some (.int (nI j))] ∧ st = [] ∧ ws = gW f ((th, tp, ln, aa, wr, pl), ta, ((td, le, ge, re, lg, ne), (nn, nk, nr, nx), su, (wa, ot, fm, tz)), (rk, mr, un, bg, bf), kd, im) R ∧ nc = 0 ∧ ns = 0, ?_, ?_⟩
  · rintro z ls st ws nc ns ⟨j, hj, rfl, rfl, rfl, rfl, rfl, rfl⟩
    refine And.intro (fun (c1 : 50 ≤ nI j) => ?_) (fun (c1 : ¬ 50 ≤ nI j) => ?_)
    · have : j = 50 := by
        have := (nI_leI (a := 50) (by decide) (by omega)).mp c1
        omega
      subst this
      exact zz_e0 hk
    · have hj2 : j < 50 := Nat.lt_of_not_le (fun z : 50 ≤ j => c1 (nI_le z (by omega)))
      have ej : (nI j).toNatClampNeg = j := nI_clamp (by omega)
      refine (And.intro (And.intro rfl (And.intro rfl (And.intro rfl (And.intro (by decide) (by decide))))) ?_)
      refine Exists.intro f (Exists.intro R (Exists.intro ((th, tp, ln, aa, wr, pl), ta, ((td, le, ge, re, lg, ne), (nn, nk, nr, nx), su, (wa, ot, fm, tz)), (rk, mr, un, bg, bf), kd, im) (Exists.intro c (Exists.intro j (And.intro hc (And.intro hj2 (And.intro rfl (And.intro rfl (?_)))))))))
      cases d : kC im mr c j with
      | true =>
        refine And.intro (fun (z : zb true = 0) => absurd z (by decide)) (fun _ => ?_)
        exact Exists.intro (50 - (j + 1)) (And.intro (by show 50 - (j + 1) < 50 - j; omega) ⟨j + 1, hj2, rfl, (by rw [nN_t (f := (kC im mr c)) (j := j) d, ← nI_1 (nN (kC im mr c) j), ← nI_1 j]; rfl), rfl, rfl, rfl, rfl⟩)
      | false =>
        refine And.intro (fun _ => ?_) (fun (z : ¬ zb false = 0) => absurd rfl z)
        exact Exists.intro (50 - (j + 1)) (And.intro (by show 50 - (j + 1) < 50 - j; omega) ⟨j + 1, hj2, rfl, (by rw [nN_f (f := (kC im mr c)) (j := j) d, Int32.add_zero, ← nI_1 j]; rfl), rfl, rfl, rfl, rfl⟩)
  · exact Exists.intro 50 (And.intro trivial ⟨0, by decide, rfl, rfl, rfl, rfl, rfl, rfl⟩)
theorem recv_Mo_counting : ∀ As ws k x, pt_Mo_counting As ws k x → ∃ q As' fs, As = .ref q :: As' ∧ ws[q]? = some (.inr (7, fs)) := by
  rintro As ws k x ⟨f, R, t, c, hc, rfl, rfl, hk⟩
  exact ⟨_, _, _, rfl, rfl⟩
theorem iR_f {hi : Nat} {v : Int32} (hh : hi < 2 ^ 31) (h : iR 0 (nI hi) v = true) : v = nI v.toNatClampNeg ∧ v.toNatClampNeg ≤ hi := by
  obtain ⟨p, hp, rfl⟩ := iR_n hh h
  rw [nI_clamp (by omega)]
  exact ⟨rfl, hp⟩
def kz (o : Nat) (a b : Prop) : Prop := (o = 0 → b) ∧ (¬ o = 0 → a)
def pt_Mo_counts : zz_PT := fun As ws k _ => ∃ (f : Nat → va_E) (R : List va_E) (t : qM) (c : Int32), As = [.ref 46, .int c] ∧ ws = gW f t R ∧ kz (oCrew c) (k (some (.int 0)) (gW f (uTh t (nI (oCrew c))) R)) (k (some (.int (nI (kN t.2.2.2.2.2 t.2.2.2.1.2.1 c.toNatClampNeg)))) (gW f (uTh t 0) R))
set_option maxHeartbeats 4000000 in
set_option maxRecDepth 100000 in
theorem m_Mo_counts (l : Launch) : zz_M zz_CL l y_Mo_counts (Cond.code y_Mo_counts c_Mo_counts 2 (some .int) :: zz_big) (zz_rm 6 133 1 6) (2, false, 0, 0, pt_Mo_counts) := by
  refine zz_M_of (HOST := "CrewRules") (L := [(1, 149, (1, false, 0, 0, pt_Mo_isCrew)), (0, 94, (4, false, 0, 0, pt_Mo_throwing)), (0, 166, (2, false, 0, 0, pt_Mo_counting))]) (sw := sw_Mo_counts) (pg := pg_Mo_counts) (th := th_Mo_counts) (ini := false) (by decide +kernel) zz_static (fun h => nomatch h) (by decide) (by decide) ok_Mo_counts (zz_cons (zz_ev_S (m_Mo_isCrew l) yw_Mo_isCrew ys_Mo_isCrew lk_Mo_149 ⟨rfl, rfl, by decide, by decide⟩) (zz_cons (zz_ev_V (m_Mo_throwing l) yw_Mo_throwing yv_Mo_throwing lk_Mo_94 ⟨rfl, rfl, by decide, by decide⟩ (ci := 7) rfl recv_Mo_throwing) (zz_cons (zz_ev_V (m_Mo_counting l) yw_Mo_counting yv_Mo_counting lk_Mo_166 ⟨rfl, rfl, by decide, by decide⟩ (ci := 7) rfl recv_Mo_counting) zz_nil))) (fun pc E h => (nomatch h)) (zz_VC0 60 ?_)
  rintro As ws k x ⟨f, R, ⟨⟨th, tp, ln, aa, wr, pl⟩, ta, ⟨⟨td, le, ge, re, lg, ne⟩, ⟨nn, nk, nr, nx⟩, su, ⟨wa, ot, fm, tz⟩⟩, ⟨rk, mr, un, bg, bf⟩, kd, im⟩, c, rfl, rfl, hk⟩
  unfold oCrew at hk
  dsimp only at hk
  refine ⟨Nat.le_of_ble_eq_true rfl, ?_⟩
  refine (And.intro (And.intro rfl (And.intro rfl (And.intro rfl (And.intro (by decide) (by decide))))) ?_)
  refine Exists.intro c (And.intro rfl (?_))
  cases cz : iR 0 19 c with
  | true =>
    refine And.intro (fun _ => ?_) (fun (z : zb true = 0) => absurd z (by decide))
    obtain ⟨c, hc, rfl⟩ := iR_n (hi := 19) (by decide) cz
    rw [cz] at hk
    have hk := hk.1 rfl
    rw [nI_clamp (by omega)] at hk
    refine (And.intro (And.intro rfl (And.intro rfl (And.intro rfl (And.intro (by decide) (by decide))))) ?_)
    refine Exists.intro f (Exists.intro R (Exists.intro ((th, tp, ln, aa, wr, pl), ta, ((td, le, ge, re, lg, ne), (nn, nk, nr, nx), su, (wa, ot, fm, tz)), (rk, mr, un, bg, bf), kd, im) (Exists.intro false (Exists.intro false (Exists.intro false (And.intro rfl (And.intro rfl (?_))))))))
    refine And.intro (fun _ => ?_) (fun (z : ¬ zb false = 0) => absurd rfl z)
    refine (And.intro (And.intro rfl (And.intro rfl (And.intro rfl (And.intro (by decide) (by decide))))) ?_)
    refine Exists.intro f (Exists.intro R (Exists.intro (((nI 0), tp, ln, aa, wr, pl), ta, ((td, le, ge, re, lg, ne), (nn, nk, nr, nx), su, (wa, ot, fm, tz)), (rk, mr, un, bg, bf), kd, im) (Exists.intro c (And.intro (by omega) (And.intro rfl (And.intro rfl (?_)))))))
    exact zz_e0 hk
  | false =>
    refine And.intro (fun (z : ¬ zb false = 0) => absurd rfl z) (fun _ => ?_)
    rw [cz] at hk
    have hk := hk.2 (show ¬ (1 : Nat) = 0 by decide)
    refine (And.intro (And.intro rfl (And.intro rfl (And.intro rfl (And.intro (by decide) (by decide))))) ?_)
    refine Exists.intro f (Exists.intro R (Exists.intro ((th, tp, ln, aa, wr, pl), ta, ((td, le, ge, re, lg, ne), (nn, nk, nr, nx), su, (wa, ot, fm, tz)), (rk, mr, un, bg, bf), kd, im) (Exists.intro true (Exists.intro false (Exists.intro false (And.intro rfl (And.intro rfl (?_))))))))
    refine And.intro (fun (z : zb true = 0) => absurd z (by decide)) (fun _ => ?_)
    exact zz_e0 hk
theorem recv_Mo_counts : ∀ As ws k x, pt_Mo_counts As ws k x → ∃ q As' fs, As = .ref q :: As' ∧ ws[q]? = some (.inr (7, fs)) := by
  rintro As ws k x ⟨f, R, t, c, rfl, rfl, hk⟩
  exact ⟨_, _, _, rfl, rfl⟩
