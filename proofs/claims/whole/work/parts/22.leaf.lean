/-! ===== Tape ===== -/
/-- byteAt: the byte at a place of the tape, -1 elsewhere -/
def tA (tb : qA) (n : Nat) (i : Int32) : Int32 := if 0 ≤ i ∧ i < nI n then tb i.toNatClampNeg else -1
def pt_Ta_byteAt : zz_PT := fun As ws k _ => ∃ (s : qC) (R : List va_E) (n : Nat) (i : Int32), s.1.2 = nI n ∧ n ≤ 300 ∧ As = [.ref 1, .int i] ∧ ws = gC s ++ R ∧ k (some (.int (tA s.1.1 n i))) ws
set_option maxHeartbeats 4000000 in
set_option maxRecDepth 100000 in
theorem m_Ta_byteAt (l : Launch) : zz_M zz_CL l y_Ta_byteAt (Cond.code y_Ta_byteAt c_Ta_byteAt 2 (some .int) :: zz_big) (zz_rm 1 20 1 6) (2, false, 0, 0, pt_Ta_byteAt) := by
  refine zz_M_of (HOST := "CrewRules") (L := []) (sw := sw_Ta_byteAt) (pg := pg_Ta_byteAt) (th := th_Ta_byteAt) (ini := false) (by decide +kernel) zz_static (fun h => nomatch h) (by decide) (by decide) ok_Ta_byteAt zz_nil (fun pc E h => (nomatch h)) (zz_VC0 40 ?_)
  rintro As ws k x ⟨⟨⟨tb, tl⟩, pa, ⟨rk, mr, fr, bf, un⟩, ⟨kd, sz, mb, co⟩, ⟨wh, hd, gs⟩, bk, sp, fl, wr⟩, R, n, i, h1, hn, rfl, rfl, hk⟩
  cases h1
  refine ⟨Nat.le_refl _, ?_⟩
  unfold tA at hk
  refine And.intro (fun (c1 : i < 0) => ?_) (fun (c1 : ¬ i < 0) => ?_)
  · rw [if_neg (fun q => by have := q.1; rw [zn_le] at this; rw [zn_lt] at c1; omega)] at hk
    exact zz_e0 hk
  · refine And.intro (fun (c2 : nI n ≤ i) => ?_) (fun (c2 : ¬ nI n ≤ i) => ?_)
    · rw [if_neg (fun q => by have := q.2; rw [zn_lt] at this; rw [zn_le] at c2; omega)] at hk
      exact zz_e0 hk
    · have c3 : 0 ≤ i ∧ i < nI n := ⟨by rw [zn_le]; rw [zn_lt] at c1; omega, by rw [zn_lt]; rw [zn_le] at c2; omega⟩
      rw [if_pos c3] at hk
      refine And.intro ?_ (zz_e0 hk)
      obtain ⟨j, hj, hj2, -⟩ := pk_mu c1 c2 (by omega)
      rw [hj2]
      exact vp_in_nI (by omega) (by decide)
theorem recv_Ta_byteAt : ∀ As ws k x, pt_Ta_byteAt As ws k x → ∃ q As' fs, As = .ref q :: As' ∧ ws[q]? = some (.inr (1, fs)) := by
  rintro As ws k x ⟨s, R, n, i, h1, hn, rfl, rfl, hk⟩
  exact ⟨_, _, _, rfl, rfl⟩
def pt_Ta_append : zz_PT := fun As ws k _ => ∃ (s : qC) (R : List va_E) (n : Nat) (v : Int32), s.1.2 = nI n ∧ n < 300 ∧ As = [.ref 1, .int v] ∧ ws = gC s ++ R ∧ k none (gC ((upd s.1.1 n v, nI (n + 1)), s.2) ++ R)
set_option maxHeartbeats 4000000 in
set_option maxRecDepth 100000 in
theorem m_Ta_append (l : Launch) : zz_M zz_CL l y_Ta_append (Cond.code y_Ta_append c_Ta_append 2 none :: zz_big) (zz_rm 1 20 1 6) (2, false, 0, 0, pt_Ta_append) := by
  refine zz_M_of (HOST := "CrewRules") (L := []) (sw := sw_Ta_append) (pg := pg_Ta_append) (th := th_Ta_append) (ini := false) (by decide +kernel) zz_static (fun h => nomatch h) (by decide) (by decide) ok_Ta_append zz_nil (fun pc E h => (nomatch h)) (zz_VC0 40 ?_)
  rintro As ws k x ⟨⟨⟨tb, tl⟩, pa, ⟨rk, mr, fr, bf, un⟩, ⟨kd, sz, mb, co⟩, ⟨wh, hd, gs⟩, bk, sp, fl, wr⟩, R, n, v, h1, hn, rfl, rfl, hk⟩
  cases h1
  refine ⟨Nat.le_refl _, ?_⟩
  refine And.intro (fun (c1 : 300 ≤ nI n) => ?_) (fun c1 => ?_)
  · exact absurd c1 (nI_ge (b := 300) hn (by decide))
  · refine And.intro (zn_in hn (by decide)) ?_
    rw [← nI_1] at hk
    have e : upd tb n v = upd tb (nI n).toNatClampNeg v := by rw [nI_clamp (by omega)]
    dsimp only at hk
    rw [e] at hk
    exact zz_ev0 hk
theorem recv_Ta_append : ∀ As ws k x, pt_Ta_append As ws k x → ∃ q As' fs, As = .ref q :: As' ∧ ws[q]? = some (.inr (1, fs)) := by
  rintro As ws k x ⟨s, R, n, v, h1, hn, rfl, rfl, hk⟩
  exact ⟨_, _, _, rfl, rfl⟩
def pt_Ta_clear : zz_PT := fun As ws k _ => ∃ (s : qC) (R : List va_E), As = [.ref 1] ∧ ws = gC s ++ R ∧ k none (gC ((s.1.1, 0), s.2) ++ R)
set_option maxHeartbeats 4000000 in
set_option maxRecDepth 100000 in
theorem m_Ta_clear (l : Launch) : zz_M zz_CL l y_Ta_clear (Cond.code y_Ta_clear c_Ta_clear 1 none :: zz_big) (zz_rm 1 20 1 6) (1, false, 0, 0, pt_Ta_clear) := by
  refine zz_M_of (HOST := "CrewRules") (L := []) (sw := sw_Ta_clear) (pg := pg_Ta_clear) (th := th_Ta_clear) (ini := false) (by decide +kernel) zz_static (fun h => nomatch h) (by decide) (by decide) ok_Ta_clear zz_nil (fun pc E h => (nomatch h)) (zz_VC0 40 ?_)
  rintro As ws k x ⟨⟨⟨tb, tl⟩, pa, ⟨rk, mr, fr, bf, un⟩, ⟨kd, sz, mb, co⟩, ⟨wh, hd, gs⟩, bk, sp, fl, wr⟩, R, rfl, rfl, hk⟩
  refine ⟨Nat.le_refl _, ?_⟩
  exact zz_ev0 hk
theorem recv_Ta_clear : ∀ As ws k x, pt_Ta_clear As ws k x → ∃ q As' fs, As = .ref q :: As' ∧ ws[q]? = some (.inr (1, fs)) := by
  rintro As ws k x ⟨s, R, rfl, rfl, hk⟩
  exact ⟨_, _, _, rfl, rfl⟩
/-! ===== People ===== -/
def pl (mr : qA) (p : Nat) : Bool := !decide (mr p &&& 1 = 0)
def pm (mr : qA) (p : Nat) : Bool := decide (mr p = 2)
def pt_Pe_isLearner : zz_PT := fun As ws k _ => ∃ (s : qC) (R : List va_E) (p : Nat), p < 50 ∧ As = [.ref 4, .int (nI p)] ∧ ws = gC s ++ R ∧ k (some (.int (zb (pl s.2.2.1.2.1 p)))) ws
set_option maxHeartbeats 4000000 in
set_option maxRecDepth 100000 in
theorem m_Pe_isLearner (l : Launch) : zz_M zz_CL l y_Pe_isLearner (Cond.code y_Pe_isLearner c_Pe_isLearner 2 (some .boolean) :: zz_big) (zz_rm 1 20 1 6) (2, false, 0, 0, pt_Pe_isLearner) := by
  refine zz_M_of (HOST := "CrewRules") (L := []) (sw := sw_Pe_isLearner) (pg := pg_Pe_isLearner) (th := th_Pe_isLearner) (ini := false) (by decide +kernel) zz_static (fun h => nomatch h) (by decide) (by decide) ok_Pe_isLearner zz_nil (fun pc E h => (nomatch h)) (zz_VC0 40 ?_)
  rintro As ws k x ⟨⟨⟨tb, tl⟩, pa, ⟨rk, mr, fr, bf, un⟩, ⟨kd, sz, mb, co⟩, ⟨wh, hd, gs⟩, bk, sp, fl, wr⟩, R, p, hp, rfl, rfl, hk⟩
  refine ⟨Nat.le_refl _, And.intro (zn_in hp (by decide)) ?_⟩
  have e : (nI p).toNatClampNeg = p := nI_clamp (by omega)
  unfold pl at hk
  refine And.intro (fun (c1 : mr (nI p).toNatClampNeg &&& 1 = 0) => ?_) (fun (c1 : ¬ mr (nI p).toNatClampNeg &&& 1 = 0) => ?_)
  · rw [e] at c1
    dsimp only at hk
    rw [decide_eq_true c1] at hk
    exact zz_eb (b := false) hk
  · rw [e] at c1
    dsimp only at hk
    rw [decide_eq_false c1] at hk
    exact zz_eb (b := true) hk
theorem recv_Pe_isLearner : ∀ As ws k x, pt_Pe_isLearner As ws k x → ∃ q As' fs, As = .ref q :: As' ∧ ws[q]? = some (.inr (3, fs)) := by
  rintro As ws k x ⟨s, R, p, hp, rfl, rfl, hk⟩
  exact ⟨_, _, _, rfl, rfl⟩
def pt_Pe_isFullMentor : zz_PT := fun As ws k _ => ∃ (s : qC) (R : List va_E) (p : Nat), p < 50 ∧ As = [.ref 4, .int (nI p)] ∧ ws = gC s ++ R ∧ k (some (.int (zb (pm s.2.2.1.2.1 p)))) ws
set_option maxHeartbeats 4000000 in
set_option maxRecDepth 100000 in
theorem m_Pe_isFullMentor (l : Launch) : zz_M zz_CL l y_Pe_isFullMentor (Cond.code y_Pe_isFullMentor c_Pe_isFullMentor 2 (some .boolean) :: zz_big) (zz_rm 1 20 1 6) (2, false, 0, 0, pt_Pe_isFullMentor) := by
  refine zz_M_of (HOST := "CrewRules") (L := []) (sw := sw_Pe_isFullMentor) (pg := pg_Pe_isFullMentor) (th := th_Pe_isFullMentor) (ini := false) (by decide +kernel) zz_static (fun h => nomatch h) (by decide) (by decide) ok_Pe_isFullMentor zz_nil (fun pc E h => (nomatch h)) (zz_VC0 40 ?_)
  rintro As ws k x ⟨⟨⟨tb, tl⟩, pa, ⟨rk, mr, fr, bf, un⟩, ⟨kd, sz, mb, co⟩, ⟨wh, hd, gs⟩, bk, sp, fl, wr⟩, R, p, hp, rfl, rfl, hk⟩
  refine ⟨Nat.le_refl _, And.intro (zn_in hp (by decide)) ?_⟩
  have e : (nI p).toNatClampNeg = p := nI_clamp (by omega)
  unfold pm at hk
  refine And.intro (fun (c1 : ¬ mr (nI p).toNatClampNeg = 2) => ?_) (fun (c1 : mr (nI p).toNatClampNeg = 2) => ?_)
  · rw [e] at c1
    dsimp only at hk
    rw [decide_eq_false c1] at hk
    exact zz_eb (b := false) hk
  · rw [e] at c1
    dsimp only at hk
    rw [decide_eq_true c1] at hk
    exact zz_eb (b := true) hk
theorem recv_Pe_isFullMentor : ∀ As ws k x, pt_Pe_isFullMentor As ws k x → ∃ q As' fs, As = .ref q :: As' ∧ ws[q]? = some (.inr (3, fs)) := by
  rintro As ws k x ⟨s, R, p, hp, rfl, rfl, hk⟩
  exact ⟨_, _, _, rfl, rfl⟩
def pr (fr bf : qA) (p : Nat) (h : Int32) : Bool := !decide (fr p = -1) && (!decide (bf p = -1) && !decide (h ≤ fr p - bf p))
def pt_Pe_restedLessThan : zz_PT := fun As ws k _ => ∃ (s : qC) (R : List va_E) (p : Nat) (h : Int32), p < 50 ∧ As = [.ref 4, .int (nI p), .int h] ∧ ws = gC s ++ R ∧ k (some (.int (zb (pr s.2.2.1.2.2.1 s.2.2.1.2.2.2.1 p h)))) ws
set_option maxHeartbeats 4000000 in
set_option maxRecDepth 100000 in
theorem m_Pe_restedLessThan (l : Launch) : zz_M zz_CL l y_Pe_restedLessThan (Cond.code y_Pe_restedLessThan c_Pe_restedLessThan 3 (some .boolean) :: zz_big) (zz_rm 1 20 1 6) (3, false, 0, 0, pt_Pe_restedLessThan) := by
  refine zz_M_of (HOST := "CrewRules") (L := []) (sw := sw_Pe_restedLessThan) (pg := pg_Pe_restedLessThan) (th := th_Pe_restedLessThan) (ini := false) (by decide +kernel) zz_static (fun h => nomatch h) (by decide) (by decide) ok_Pe_restedLessThan zz_nil (fun pc E h => (nomatch h)) (zz_VC0 60 ?_)
  rintro As ws k x ⟨⟨⟨tb, tl⟩, pa, ⟨rk, mr, fr, bf, un⟩, ⟨kd, sz, mb, co⟩, ⟨wh, hd, gs⟩, bk, sp, fl, wr⟩, R, p, h, hp, rfl, rfl, hk⟩
  refine ⟨Nat.le_refl _, And.intro (zn_in hp (by decide)) ?_⟩
  have e : (nI p).toNatClampNeg = p := nI_clamp (by omega)
  unfold pr at hk
  dsimp only at hk
  refine And.intro (fun (c1 : fr (nI p).toNatClampNeg = -1) => ?_) (fun (c1 : ¬ fr (nI p).toNatClampNeg = -1) => And.intro (zn_in hp (by decide)) ?_)
  · rw [e] at c1
    rw [decide_eq_true c1] at hk
    exact zz_eb (b := false) hk
  · refine And.intro (fun (c2 : bf (nI p).toNatClampNeg = -1) => ?_) (fun (c2 : ¬ bf (nI p).toNatClampNeg = -1) => And.intro (zn_in hp (by decide)) (And.intro (zn_in hp (by decide)) ?_))
    · rw [e] at c1 c2
      rw [decide_eq_false c1, decide_eq_true c2] at hk
      exact zz_eb (b := false) hk
    · refine And.intro (fun (c3 : h ≤ fr (nI p).toNatClampNeg - bf (nI p).toNatClampNeg) => ?_) (fun (c3 : ¬ h ≤ fr (nI p).toNatClampNeg - bf (nI p).toNatClampNeg) => ?_)
      · rw [e] at c1 c2 c3
        rw [decide_eq_false c1, decide_eq_false c2, decide_eq_true c3] at hk
        exact zz_eb (b := false) hk
      · rw [e] at c1 c2 c3
        rw [decide_eq_false c1, decide_eq_false c2, decide_eq_false c3] at hk
        exact zz_eb (b := true) hk
theorem recv_Pe_restedLessThan : ∀ As ws k x, pt_Pe_restedLessThan As ws k x → ∃ q As' fs, As = .ref q :: As' ∧ ws[q]? = some (.inr (3, fs)) := by
  rintro As ws k x ⟨s, R, p, h, hp, rfl, rfl, hk⟩
  exact ⟨_, _, _, rfl, rfl⟩
def pn (fr : qA) (p : Nat) (h : Int32) : Bool := !decide (fr p = -1) && !decide (h < fr p)
def pt_Pe_hasBegun : zz_PT := fun As ws k _ => ∃ (s : qC) (R : List va_E) (p : Nat) (h : Int32), p < 50 ∧ As = [.ref 4, .int (nI p), .int h] ∧ ws = gC s ++ R ∧ k (some (.int (zb (pn s.2.2.1.2.2.1 p h)))) ws
set_option maxHeartbeats 4000000 in
set_option maxRecDepth 100000 in
theorem m_Pe_hasBegun (l : Launch) : zz_M zz_CL l y_Pe_hasBegun (Cond.code y_Pe_hasBegun c_Pe_hasBegun 3 (some .boolean) :: zz_big) (zz_rm 1 20 1 6) (3, false, 0, 0, pt_Pe_hasBegun) := by
  refine zz_M_of (HOST := "CrewRules") (L := []) (sw := sw_Pe_hasBegun) (pg := pg_Pe_hasBegun) (th := th_Pe_hasBegun) (ini := false) (by decide +kernel) zz_static (fun h => nomatch h) (by decide) (by decide) ok_Pe_hasBegun zz_nil (fun pc E h => (nomatch h)) (zz_VC0 60 ?_)
  rintro As ws k x ⟨⟨⟨tb, tl⟩, pa, ⟨rk, mr, fr, bf, un⟩, ⟨kd, sz, mb, co⟩, ⟨wh, hd, gs⟩, bk, sp, fl, wr⟩, R, p, h, hp, rfl, rfl, hk⟩
  refine ⟨Nat.le_refl _, And.intro (zn_in hp (by decide)) ?_⟩
  have e : (nI p).toNatClampNeg = p := nI_clamp (by omega)
  unfold pn at hk
  dsimp only at hk
  refine And.intro (fun (c1 : fr (nI p).toNatClampNeg = -1) => ?_) (fun (c1 : ¬ fr (nI p).toNatClampNeg = -1) => And.intro (zn_in hp (by decide)) ?_)
  · rw [e] at c1
    rw [decide_eq_true c1] at hk
    exact zz_eb (b := false) hk
  · refine And.intro (fun (c2 : h < fr (nI p).toNatClampNeg) => ?_) (fun (c2 : ¬ h < fr (nI p).toNatClampNeg) => ?_)
    · rw [e] at c1 c2
      rw [decide_eq_false c1, decide_eq_true c2] at hk
      exact zz_eb (b := false) hk
    · rw [e] at c1 c2
      rw [decide_eq_false c1, decide_eq_false c2] at hk
      exact zz_eb (b := true) hk
theorem recv_Pe_hasBegun : ∀ As ws k x, pt_Pe_hasBegun As ws k x → ∃ q As' fs, As = .ref q :: As' ∧ ws[q]? = some (.inr (3, fs)) := by
  rintro As ws k x ⟨s, R, p, h, hp, rfl, rfl, hk⟩
  exact ⟨_, _, _, rfl, rfl⟩
/-- the skills below j that p has at the hour, a bit each -/
def ph (un : qA) (p : Nat) (h : Int32) : Nat → Int32
  | 0 => 0
  | j + 1 => if un (10 * p + j) ≤ h then ph un p h j else ph un p h j ||| ((1 : Int32) <<< (nI j &&& 31))
def pt_Pe_skillsAt : zz_PT := fun As ws k _ => ∃ (s : qC) (R : List va_E) (p : Nat) (h : Int32), p < 50 ∧ As = [.ref 4, .int (nI p), .int h] ∧ ws = gC s ++ R ∧ k (some (.int (ph s.2.2.1.2.2.2.2 p h 10))) ws
set_option maxHeartbeats 4000000 in
set_option maxRecDepth 100000 in
theorem m_Pe_skillsAt (l : Launch) : zz_M zz_CL l y_Pe_skillsAt (Cond.code y_Pe_skillsAt c_Pe_skillsAt 5 (some .int) :: zz_big) (zz_rm 1 20 1 6) (3, false, 0, 0, pt_Pe_skillsAt) := by
  refine zz_M_of (HOST := "CrewRules") (L := []) (sw := sw_Pe_skillsAt) (pg := pg_Pe_skillsAt) (th := th_Pe_skillsAt) (ini := false) (by decide +kernel) zz_static (fun h => nomatch h) (by decide) (by decide) ok_Pe_skillsAt zz_nil (fun pc E h => (nomatch h)) (zz_VC1 60 5 [true, true, true, true, true] rfl ?_)
  rintro As ws k x ⟨⟨⟨tb, tl⟩, pa, ⟨rk, mr, fr, bf, un⟩, ⟨kd, sz, mb, co⟩, ⟨wh, hd, gs⟩, bk, sp, fl, wr⟩, R, p, h, hp, rfl, rfl, hk⟩
  refine ⟨Nat.le_of_ble_eq_true rfl, fun n ls st ws nc ns => ∃ j, j ≤ 10 ∧ n = 10 - j ∧ ls = [some (.ref 4), some (.int (nI p)), some (.int h), some (.int (ph un p h j)), some (.int (nI j))] ∧ st = [] ∧ ws = gC ((tb, tl), pa, (rk, mr, fr, bf, un), (kd, sz, mb, co), (wh, hd, gs), bk, sp, fl, wr) ++ R ∧ nc = 0 ∧ ns = 0, ?_, ?_⟩
  · rintro n ls st ws nc ns ⟨j, hj, rfl, rfl, rfl, rfl, rfl, rfl⟩
    have e1 : nI p * 10 + nI j = nI (10 * p + j) := by
      show nI p * nI 10 + nI j = _
      rw [pk_mul, nI_add, Nat.mul_comm]
    refine And.intro (fun (c1 : 10 ≤ nI j) => ?_) (fun (c1 : ¬ 10 ≤ nI j) => And.intro ?_ ?_)
    · have : j = 10 := by
        have := (nI_leI (a := 10) (by decide) (by omega)).mp c1
        omega
      subst this
      exact zz_e0 hk
    · show vp_in (nI p * 10 + nI j) 500
      rw [e1]
      exact zn_in (by have := Nat.lt_of_not_le (fun z : 10 ≤ j => c1 (nI_le z (by omega))); omega) (by decide)
    · have hj2 : j < 10 := Nat.lt_of_not_le (fun z : 10 ≤ j => c1 (nI_le z (by omega)))
      have e2 : (nI p * 10 + nI j).toNatClampNeg = 10 * p + j := by rw [e1]; exact nI_clamp (by omega)
      refine And.intro (fun (c2 : un (nI p * 10 + nI j).toNatClampNeg ≤ h) => ?_) (fun (c2 : ¬ un (nI p * 10 + nI j).toNatClampNeg ≤ h) => ?_)
      · rw [e2] at c2
        refine Exists.intro (10 - (j + 1)) (And.intro (by show 10 - (j + 1) < 10 - j; omega) ⟨j + 1, hj2, rfl, ?_, rfl, rfl, rfl, rfl⟩)
        rw [show ph un p h (j + 1) = ph un p h j by show (if _ then _ else _) = _; rw [if_pos c2], ← nI_1]
        rfl
      · rw [e2] at c2
        refine Exists.intro (10 - (j + 1)) (And.intro (by show 10 - (j + 1) < 10 - j; omega) ⟨j + 1, hj2, rfl, ?_, rfl, rfl, rfl, rfl⟩)
        rw [show ph un p h (j + 1) = ph un p h j ||| ((1 : Int32) <<< (nI j &&& 31)) by show (if _ then _ else _) = _; rw [if_neg c2], ← nI_1]
        rfl
  · exact Exists.intro 10 (And.intro trivial ⟨0, by decide, rfl, rfl, rfl, rfl, rfl, rfl⟩)
theorem recv_Pe_skillsAt : ∀ As ws k x, pt_Pe_skillsAt As ws k x → ∃ q As' fs, As = .ref q :: As' ∧ ws[q]? = some (.inr (3, fs)) := by
  rintro As ws k x ⟨s, R, p, h, hp, rfl, rfl, hk⟩
  exact ⟨_, _, _, rfl, rfl⟩
