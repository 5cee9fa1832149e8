/-! ===== RuleBook ===== -/
def pt_Rb_has : zz_PT := fun As ws k _ => ∃ (w : Bool) (c0 : List Value) (S : q18) (b1 : qB) (R : List va_E) (b : qB) (j : Nat), j < 10 ∧ As = [.ref (pB w), .int (nI j)] ∧ ws = zB w c0 S b1 R b ∧ k (some (.int (zb (!decide (b.1.1 j = -1))))) ws
set_option maxHeartbeats 4000000 in
set_option maxRecDepth 100000 in
theorem m_Rb_has (l : Launch) : zz_M zz_CL l y_Rb_has (Cond.code y_Rb_has c_Rb_has 2 (some .boolean) :: zz_big) (zz_rm 1 20 1 6) (2, false, 0, 0, pt_Rb_has) := by
  refine zz_M_of (HOST := "CrewRules") (L := []) (sw := sw_Rb_has) (pg := pg_Rb_has) (th := th_Rb_has) (ini := false) (by decide +kernel) zz_static (fun h => nomatch h) (by decide) (by decide) ok_Rb_has zz_nil (fun pc E h => (nomatch h)) (zz_VC0 40 ?_)
  rintro As ws k x ⟨w, c0, ⟨⟨tb, tl⟩, pa, ⟨rk, mr, fr, bf, un⟩, ⟨kd, sz, mb, co⟩, ⟨wh, hd, gs⟩⟩, b1, R, ⟨⟨le, ge, re, lo, nc⟩, rc, ⟨nx, nn, nk, nr⟩, ⟨wa, si, fh, lh⟩, sc⟩, j, hj, rfl, rfl, hk⟩
  have e : (nI j).toNatClampNeg = j := nI_clamp (by omega)
  dsimp only at hk
  cases w <;> (
    refine ⟨Nat.le_of_ble_eq_true rfl, And.intro (zn_in hj (by decide)) ?_⟩
    refine And.intro (fun (c1 : le (nI j).toNatClampNeg = -1) => ?_) (fun (c1 : ¬ le (nI j).toNatClampNeg = -1) => ?_)
    · rw [e] at c1
      rw [decide_eq_true c1] at hk
      exact zz_eb (b := false) hk
    · rw [e] at c1
      rw [decide_eq_false c1] at hk
      exact zz_eb (b := true) hk)
theorem recv_Rb_has : ∀ As ws k x, pt_Rb_has As ws k x → ∃ q As' fs, As = .ref q :: As' ∧ ws[q]? = some (.inr (6, fs)) := by
  rintro As ws k x ⟨w, c0, S, b1, R, b, j, hj, rfl, rfl, hk⟩
  cases w <;> exact ⟨_, _, _, rfl, rfl⟩
def pt_Rb_clear : zz_PT := fun As ws k _ => ∃ (w : Bool) (c0 : List Value) (S : q18) (b1 : qB) (R : List va_E) (b : qB), As = [.ref (pB w)] ∧ ws = zB w c0 S b1 R b ∧ ∀ le' : qA, (∀ j, j < 10 → le' j = -1) → k none (zB w c0 S b1 R ((le', b.1.2), 0, b.2.2.1, b.2.2.2.1, 0))
set_option maxHeartbeats 4000000 in
set_option maxRecDepth 100000 in
theorem m_Rb_clear (l : Launch) : zz_M zz_CL l y_Rb_clear (Cond.code y_Rb_clear c_Rb_clear 2 none :: zz_big) (zz_rm 1 20 1 6) (1, false, 0, 0, pt_Rb_clear) := by
  refine zz_M_of (HOST := "CrewRules") (L := []) (sw := sw_Rb_clear) (pg := pg_Rb_clear) (th := th_Rb_clear) (ini := false) (by decide +kernel) zz_static (fun h => nomatch h) (by decide) (by decide) ok_Rb_clear zz_nil (fun pc E h => (nomatch h)) (zz_VC1 60 2 [true, true] rfl ?_)
  rintro As ws k x ⟨w, c0, ⟨⟨tb, tl⟩, pa, ⟨rk, mr, fr, bf, un⟩, ⟨kd, sz, mb, co⟩, ⟨wh, hd, gs⟩⟩, b1, R, ⟨⟨le, ge, re, lo, nc⟩, rc, ⟨nx, nn, nk, nr⟩, ⟨wa, si, fh, lh⟩, sc⟩, rfl, rfl, hk⟩
  dsimp only at hk
  cases w
  · refine ⟨Nat.le_of_ble_eq_true rfl, fun n ls st ws nc1 ns => ∃ (j : Nat) (l2 : qA), j ≤ 10 ∧ n = 10 - j ∧ (∀ i, i < j → l2 i = -1) ∧ ls = [some (.ref (pB false)), some (.int (nI j))] ∧ st = [] ∧ ws = zB false c0 ((tb, tl), pa, (rk, mr, fr, bf, un), (kd, sz, mb, co), (wh, hd, gs)) b1 R ((l2, ge, re, lo, nc), rc, (nx, nn, nk, nr), (wa, si, fh, lh), sc) ∧ nc1 = 0 ∧ ns = 0, ?_, ?_⟩
    · rintro n ls st ws nc1 ns ⟨j, l2, hj, rfl, hl, rfl, rfl, rfl, rfl, rfl⟩
      refine And.intro (fun (c1 : 10 ≤ nI j) => ?_) (fun (c1 : ¬ 10 ≤ nI j) => ?_)
      · have : j = 10 := by
          have := (nI_leI (a := 10) (by decide) (by omega)).mp c1
          omega
        subst this
        exact zz_ev0 (hk l2 hl)
      · have hj2 : j < 10 := Nat.lt_of_not_le (fun z : 10 ≤ j => c1 (nI_le z (by omega)))
        have e2 : (nI j).toNatClampNeg = j := nI_clamp (by omega)
        refine And.intro (zn_in hj2 (by decide)) ?_
        refine Exists.intro (10 - (j + 1)) (And.intro (by show 10 - (j + 1) < 10 - j; omega) ⟨j + 1, upd l2 (nI j).toNatClampNeg (-1), hj2, rfl, ?_, by rw [← nI_1]; rfl, rfl, rfl, rfl, rfl⟩)
        intro i hi
        rw [e2]
        by_cases q : i = j
        · rw [q]; exact pk_us
        · rw [pk_un q]; exact hl i (by omega)
    · exact Exists.intro 10 (And.intro trivial ⟨0, le, by decide, rfl, fun i hi => absurd hi (Nat.not_lt_zero i), rfl, rfl, rfl, rfl, rfl⟩)
  · refine ⟨Nat.le_of_ble_eq_true rfl, fun n ls st ws nc1 ns => ∃ (j : Nat) (l2 : qA), j ≤ 10 ∧ n = 10 - j ∧ (∀ i, i < j → l2 i = -1) ∧ ls = [some (.ref (pB true)), some (.int (nI j))] ∧ st = [] ∧ ws = zB true c0 ((tb, tl), pa, (rk, mr, fr, bf, un), (kd, sz, mb, co), (wh, hd, gs)) b1 R ((l2, ge, re, lo, nc), rc, (nx, nn, nk, nr), (wa, si, fh, lh), sc) ∧ nc1 = 0 ∧ ns = 0, ?_, ?_⟩
    · rintro n ls st ws nc1 ns ⟨j, l2, hj, rfl, hl, rfl, rfl, rfl, rfl, rfl⟩
      refine And.intro (fun (c1 : 10 ≤ nI j) => ?_) (fun (c1 : ¬ 10 ≤ nI j) => ?_)
      · have : j = 10 := by
          have := (nI_leI (a := 10) (by decide) (by omega)).mp c1
          omega
        subst this
        exact zz_ev0 (hk l2 hl)
      · have hj2 : j < 10 := Nat.lt_of_not_le (fun z : 10 ≤ j => c1 (nI_le z (by omega)))
        have e2 : (nI j).toNatClampNeg = j := nI_clamp (by omega)
        refine And.intro (zn_in hj2 (by decide)) ?_
        refine Exists.intro (10 - (j + 1)) (And.intro (by show 10 - (j + 1) < 10 - j; omega) ⟨j + 1, upd l2 (nI j).toNatClampNeg (-1), hj2, rfl, ?_, by rw [← nI_1]; rfl, rfl, rfl, rfl, rfl⟩)
        intro i hi
        rw [e2]
        by_cases q : i = j
        · rw [q]; exact pk_us
        · rw [pk_un q]; exact hl i (by omega)
    · exact Exists.intro 10 (And.intro trivial ⟨0, le, by decide, rfl, fun i hi => absurd hi (Nat.not_lt_zero i), rfl, rfl, rfl, rfl, rfl⟩)
theorem recv_Rb_clear : ∀ As ws k x, pt_Rb_clear As ws k x → ∃ q As' fs, As = .ref q :: As' ∧ ws[q]? = some (.inr (6, fs)) := by
  rintro As ws k x ⟨w, c0, S, b1, R, b, rfl, rfl, hk⟩
  cases w <;> exact ⟨_, _, _, rfl, rfl⟩
def pt_Rb_addRule : zz_PT := fun As ws k _ => ∃ (w : Bool) (c0 : List Value) (S : q18) (b1 : qB) (R : List va_E) (b : qB) (j : Nat) (u v : Int32), j < 10 ∧ As = [.ref (pB w), .int (nI j), .int u, .int v] ∧ ws = zB w c0 S b1 R b ∧ k none (zB w c0 S b1 R ((upd b.1.1 j u, upd b.1.2.1 j v, upd b.1.2.2.1 j (-1), upd b.1.2.2.2.1 j (-1), upd b.1.2.2.2.2 j 0), b.2.1 + 1, b.2.2))
set_option maxHeartbeats 4000000 in
set_option maxRecDepth 100000 in
theorem m_Rb_addRule (l : Launch) : zz_M zz_CL l y_Rb_addRule (Cond.code y_Rb_addRule c_Rb_addRule 4 none :: zz_big) (zz_rm 1 20 1 6) (4, false, 0, 0, pt_Rb_addRule) := by
  refine zz_M_of (HOST := "CrewRules") (L := []) (sw := sw_Rb_addRule) (pg := pg_Rb_addRule) (th := th_Rb_addRule) (ini := false) (by decide +kernel) zz_static (fun h => nomatch h) (by decide) (by decide) ok_Rb_addRule zz_nil (fun pc E h => (nomatch h)) (zz_VC0 60 ?_)
  rintro As ws k x ⟨w, c0, ⟨⟨tb, tl⟩, pa, ⟨rk, mr, fr, bf, un⟩, ⟨kd, sz, mb, co⟩, ⟨wh, hd, gs⟩⟩, b1, R, ⟨⟨le, ge, re, lo, nc⟩, rc, ⟨nx, nn, nk, nr⟩, ⟨wa, si, fh, lh⟩, sc⟩, j, u, v, hj, rfl, rfl, hk⟩
  have e : (nI j).toNatClampNeg = j := nI_clamp (by omega)
  have i1 := zn_in hj (show 10 < 2 ^ 31 by decide)
  have hk2 : k none (zB w c0 ((tb, tl), pa, (rk, mr, fr, bf, un), (kd, sz, mb, co), (wh, hd, gs)) b1 R ((upd le (nI j).toNatClampNeg u, upd ge (nI j).toNatClampNeg v, upd re (nI j).toNatClampNeg (-1), upd lo (nI j).toNatClampNeg (-1), upd nc (nI j).toNatClampNeg 0), rc + 1, (nx, nn, nk, nr), (wa, si, fh, lh), sc)) := by
    simp only [e]
    exact hk
  cases w <;> exact ⟨Nat.le_of_ble_eq_true rfl, And.intro i1 (And.intro i1 (And.intro i1 (And.intro i1 (And.intro i1 (zz_ev0 hk2)))))⟩
theorem recv_Rb_addRule : ∀ As ws k x, pt_Rb_addRule As ws k x → ∃ q As' fs, As = .ref q :: As' ∧ ws[q]? = some (.inr (6, fs)) := by
  rintro As ws k x ⟨w, c0, S, b1, R, b, j, u, v, hj, rfl, rfl, hk⟩
  cases w <;> exact ⟨_, _, _, rfl, rfl⟩
def pt_Rb_needAt : zz_PT := fun As ws k _ => ∃ (i j : Nat), As = [.int (nI i), .int (nI j)] ∧ k (some (.int (nI (6 * i + j)))) ws
set_option maxHeartbeats 4000000 in
set_option maxRecDepth 100000 in
theorem m_Rb_needAt (l : Launch) : zz_M zz_CL l y_Rb_needAt (Cond.code y_Rb_needAt c_Rb_needAt 2 (some .int) :: zz_big) (zz_rm 1 20 1 6) (2, false, 0, 0, pt_Rb_needAt) := by
  refine zz_M_of (HOST := "CrewRules") (L := []) (sw := sw_Rb_needAt) (pg := pg_Rb_needAt) (th := th_Rb_needAt) (ini := false) (by decide +kernel) zz_static (fun h => nomatch h) (by decide) (by decide) ok_Rb_needAt zz_nil (fun pc E h => (nomatch h)) (zz_VC0 30 ?_)
  rintro As ws k x ⟨i, j, rfl, hk⟩
  have e : nI i * 6 + nI j = nI (6 * i + j) := by
    show nI i * nI 6 + nI j = _
    rw [pk_mul, nI_add, Nat.mul_comm]
  rw [← e] at hk
  exact ⟨Nat.le_of_ble_eq_true rfl, zz_e0 hk⟩
theorem vpn_zb (b : Bool) : vp_nar .boolean (zb b) = zb b := by cases b <;> decide
def pt_Rb_addNeed : zz_PT := fun As ws k _ => ∃ (w : Bool) (c0 : List Value) (S : q18) (b1 : qB) (R : List va_E) (b : qB) (j i : Nat) (ex : Bool) (u v y : Int32), j < 10 ∧ i < 6 ∧ b.1.2.2.2.2 j = nI i ∧ As = [.ref (pB w), .int (nI j), .int (zb ex), .int u, .int v, .int y] ∧ ws = zB w c0 S b1 R b ∧ k none (zB w c0 S b1 R ((b.1.1, b.1.2.1, b.1.2.2.1, b.1.2.2.2.1, upd b.1.2.2.2.2 j (nI (i + 1))), b.2.1, (upd b.2.2.1.1 (6 * j + i) (zb ex), upd b.2.2.1.2.1 (6 * j + i) u, upd b.2.2.1.2.2.1 (6 * j + i) v, upd b.2.2.1.2.2.2 (6 * j + i) y), b.2.2.2))
set_option maxHeartbeats 4000000 in
set_option maxRecDepth 100000 in
theorem m_Rb_addNeed (l : Launch) : zz_M zz_CL l y_Rb_addNeed (Cond.code y_Rb_addNeed c_Rb_addNeed 7 none :: zz_big) (zz_rm 2 41 1 6) (6, false, 0, 0, pt_Rb_addNeed) := by
  refine zz_M_of (HOST := "CrewRules") (L := [(1, 62, (2, false, 0, 0, pt_Rb_needAt))]) (sw := sw_Rb_addNeed) (pg := pg_Rb_addNeed) (th := th_Rb_addNeed) (ini := false) (by decide +kernel) zz_static (fun h => nomatch h) (by decide) (by decide) ok_Rb_addNeed (zz_cons (zz_ev_S (m_Rb_needAt l) yw_Rb_needAt ys_Rb_needAt lk_Rb_62 ⟨rfl, rfl, by decide, by decide⟩) zz_nil) (fun pc E h => (nomatch h)) (zz_VC0 60 ?_)
  rintro As ws k x ⟨w, c0, ⟨⟨tb, tl⟩, pa, ⟨rk, mr, fr, bf, un⟩, ⟨kd, sz, mb, co⟩, ⟨wh, hd, gs⟩⟩, b1, R, ⟨⟨le, ge, re, lo, nc⟩, rc, ⟨nx, nn, nk, nr⟩, ⟨wa, si, fh, lh⟩, sc⟩, j, i, ex, u, v, y, hj, hi, hc, rfl, rfl, hk⟩
  dsimp only at hc hk
  have e : (nI j).toNatClampNeg = j := nI_clamp (by omega)
  have e2 : (nI (6 * j + i)).toNatClampNeg = 6 * j + i := nI_clamp (by omega)
  have i1 := zn_in hj (show 10 < 2 ^ 31 by decide)
  have i2 := zn_in (show 6 * j + i < 60 by omega) (show 60 < 2 ^ 31 by decide)
  have c1 : nc (nI j).toNatClampNeg < 6 := by rw [e, hc]; exact nI_lt (b := 6) hi (by decide)
  have hk2 : k none (zB w c0 ((tb, tl), pa, (rk, mr, fr, bf, un), (kd, sz, mb, co), (wh, hd, gs)) b1 R ((le, ge, re, lo, upd nc (nI j).toNatClampNeg (nc (nI j).toNatClampNeg + 1)), rc, (upd nx (nI (6 * j + i)).toNatClampNeg (vp_nar .boolean (zb ex)), upd nn (nI (6 * j + i)).toNatClampNeg u, upd nk (nI (6 * j + i)).toNatClampNeg v, upd nr (nI (6 * j + i)).toNatClampNeg y), (wa, si, fh, lh), sc)) := by
    simp only [e, e2, vpn_zb, hc, nI_1]
    exact hk
  cases w <;> (
    refine ⟨Nat.le_of_ble_eq_true rfl, And.intro i1 (And.intro (fun _ => And.intro i1 (And.intro (And.intro rfl (And.intro rfl (And.intro rfl (And.intro (by decide) (by decide))))) ?_)) (fun q => absurd c1 q))⟩
    refine Exists.intro j (Exists.intro i (And.intro (by rw [e, hc]; rfl) ?_))
    exact And.intro i2 (And.intro i2 (And.intro i2 (And.intro i2 (And.intro i1 (And.intro i1 (zz_ev0 hk2)))))))
theorem recv_Rb_addNeed : ∀ As ws k x, pt_Rb_addNeed As ws k x → ∃ q As' fs, As = .ref q :: As' ∧ ws[q]? = some (.inr (6, fs)) := by
  rintro As ws k x ⟨w, c0, S, b1, R, b, j, i, ex, u, v, y, hj, hi, hc, rfl, rfl, hk⟩
  cases w <;> exact ⟨_, _, _, rfl, rfl⟩
def pt_Rb_hasRoomForSubstitute : zz_PT := fun As ws k _ => ∃ (w : Bool) (c0 : List Value) (S : q18) (b1 : qB) (R : List va_E) (b : qB), As = [.ref (pB w)] ∧ ws = zB w c0 S b1 R b ∧ k (some (.int (zb (!decide (10 ≤ b.2.2.2.2))))) ws
set_option maxHeartbeats 4000000 in
set_option maxRecDepth 100000 in
theorem m_Rb_hasRoomForSubstitute (l : Launch) : zz_M zz_CL l y_Rb_hasRoomForSubstitute (Cond.code y_Rb_hasRoomForSubstitute c_Rb_hasRoomForSubstitute 1 (some .boolean) :: zz_big) (zz_rm 1 20 1 6) (1, false, 0, 0, pt_Rb_hasRoomForSubstitute) := by
  refine zz_M_of (HOST := "CrewRules") (L := []) (sw := sw_Rb_hasRoomForSubstitute) (pg := pg_Rb_hasRoomForSubstitute) (th := th_Rb_hasRoomForSubstitute) (ini := false) (by decide +kernel) zz_static (fun h => nomatch h) (by decide) (by decide) ok_Rb_hasRoomForSubstitute zz_nil (fun pc E h => (nomatch h)) (zz_VC0 40 ?_)
  rintro As ws k x ⟨w, c0, ⟨⟨tb, tl⟩, pa, ⟨rk, mr, fr, bf, un⟩, ⟨kd, sz, mb, co⟩, ⟨wh, hd, gs⟩⟩, b1, R, ⟨⟨le, ge, re, lo, nc⟩, rc, ⟨nx, nn, nk, nr⟩, ⟨wa, si, fh, lh⟩, sc⟩, rfl, rfl, hk⟩
  dsimp only at hk
  cases w <;> (
    refine ⟨Nat.le_of_ble_eq_true rfl, ?_⟩
    refine And.intro (fun (c1 : 10 ≤ sc) => ?_) (fun (c1 : ¬ 10 ≤ sc) => ?_)
    · rw [decide_eq_true c1] at hk
      exact zz_eb (b := false) hk
    · rw [decide_eq_false c1] at hk
      exact zz_eb (b := true) hk)
theorem recv_Rb_hasRoomForSubstitute : ∀ As ws k x, pt_Rb_hasRoomForSubstitute As ws k x → ∃ q As' fs, As = .ref q :: As' ∧ ws[q]? = some (.inr (6, fs)) := by
  rintro As ws k x ⟨w, c0, S, b1, R, b, rfl, rfl, hk⟩
  cases w <;> exact ⟨_, _, _, rfl, rfl⟩
def pt_Rb_addSubstitute : zz_PT := fun As ws k _ => ∃ (w : Bool) (c0 : List Value) (S : q18) (b1 : qB) (R : List va_E) (b : qB) (i : Nat) (u v y z : Int32), i < 10 ∧ b.2.2.2.2 = nI i ∧ As = [.ref (pB w), .int u, .int v, .int y, .int z] ∧ ws = zB w c0 S b1 R b ∧ k none (zB w c0 S b1 R (b.1, b.2.1, b.2.2.1, (upd b.2.2.2.1.1 i u, upd b.2.2.2.1.2.1 i v, upd b.2.2.2.1.2.2.1 i y, upd b.2.2.2.1.2.2.2 i z), nI (i + 1)))
set_option maxHeartbeats 4000000 in
set_option maxRecDepth 100000 in
theorem m_Rb_addSubstitute (l : Launch) : zz_M zz_CL l y_Rb_addSubstitute (Cond.code y_Rb_addSubstitute c_Rb_addSubstitute 5 none :: zz_big) (zz_rm 2 40 1 6) (5, false, 0, 0, pt_Rb_addSubstitute) := by
  refine zz_M_of (HOST := "CrewRules") (L := [(0, 66, (1, false, 0, 0, pt_Rb_hasRoomForSubstitute))]) (sw := sw_Rb_addSubstitute) (pg := pg_Rb_addSubstitute) (th := th_Rb_addSubstitute) (ini := false) (by decide +kernel) zz_static (fun h => nomatch h) (by decide) (by decide) ok_Rb_addSubstitute (zz_cons (zz_ev_V (m_Rb_hasRoomForSubstitute l) yw_Rb_hasRoomForSubstitute yv_Rb_hasRoomForSubstitute lk_Rb_66 ⟨rfl, rfl, by decide, by decide⟩ (ci := 6) rfl recv_Rb_hasRoomForSubstitute) zz_nil) (fun pc E h => (nomatch h)) (zz_VC0 60 ?_)
  rintro As ws k x ⟨w, c0, ⟨⟨tb, tl⟩, pa, ⟨rk, mr, fr, bf, un⟩, ⟨kd, sz, mb, co⟩, ⟨wh, hd, gs⟩⟩, b1, R, ⟨⟨le, ge, re, lo, nc⟩, rc, ⟨nx, nn, nk, nr⟩, ⟨wa, si, fh, lh⟩, sc⟩, i, u, v, y, z, hi, hc, rfl, rfl, hk⟩
  dsimp only at hc hk
  subst hc
  have e : (nI i).toNatClampNeg = i := nI_clamp (by omega)
  have i1 := zn_in hi (show 10 < 2 ^ 31 by decide)
  have hk2 : k none (zB w c0 ((tb, tl), pa, (rk, mr, fr, bf, un), (kd, sz, mb, co), (wh, hd, gs)) b1 R ((le, ge, re, lo, nc), rc, (nx, nn, nk, nr), (upd wa (nI i).toNatClampNeg u, upd si (nI i).toNatClampNeg v, upd fh (nI i).toNatClampNeg y, upd lh (nI i).toNatClampNeg z), nI i + 1)) := by
    simp only [e, nI_1]
    exact hk
  have hr : zb (!decide (10 ≤ nI i)) = 1 := by
    rw [decide_eq_false (p := (10 : Int32) ≤ nI i) (fun q => absurd ((nI_leI (a := 10) (b := i) (by decide) (by omega)).mp q) (by omega))]; rfl
  cases w
  · refine ⟨Nat.le_of_ble_eq_true rfl, (And.intro (And.intro rfl (And.intro rfl (And.intro rfl (And.intro (by decide) (by decide))))) ?_)⟩
    refine Exists.intro false (Exists.intro c0 (Exists.intro ((tb, tl), pa, (rk, mr, fr, bf, un), (kd, sz, mb, co), (wh, hd, gs)) (Exists.intro b1 (Exists.intro R (Exists.intro ((le, ge, re, lo, nc), rc, (nx, nn, nk, nr), (wa, si, fh, lh), nI i) (And.intro rfl (And.intro rfl ?_)))))))
    refine And.intro (fun _ => And.intro i1 (And.intro i1 (And.intro i1 (And.intro i1 (zz_ev0 hk2))))) (fun (q : zb (!decide (10 ≤ nI i)) = 0) => absurd (hr.symm.trans q) (by decide))
  · refine ⟨Nat.le_of_ble_eq_true rfl, (And.intro (And.intro rfl (And.intro rfl (And.intro rfl (And.intro (by decide) (by decide))))) ?_)⟩
    refine Exists.intro true (Exists.intro c0 (Exists.intro ((tb, tl), pa, (rk, mr, fr, bf, un), (kd, sz, mb, co), (wh, hd, gs)) (Exists.intro b1 (Exists.intro R (Exists.intro ((le, ge, re, lo, nc), rc, (nx, nn, nk, nr), (wa, si, fh, lh), nI i) (And.intro rfl (And.intro rfl ?_)))))))
    refine And.intro (fun _ => And.intro i1 (And.intro i1 (And.intro i1 (And.intro i1 (zz_ev0 hk2))))) (fun (q : zb (!decide (10 ≤ nI i)) = 0) => absurd (hr.symm.trans q) (by decide))
theorem recv_Rb_addSubstitute : ∀ As ws k x, pt_Rb_addSubstitute As ws k x → ∃ q As' fs, As = .ref q :: As' ∧ ws[q]? = some (.inr (6, fs)) := by
  rintro As ws k x ⟨w, c0, S, b1, R, b, i, u, v, y, z, hi, hc, rfl, rfl, hk⟩
  cases w <;> exact ⟨_, _, _, rfl, rfl⟩
/-- is the hour of the day within f and l -/
def bw (d f l : Int32) : Bool := bif decide (f ≤ l) then decide (f ≤ d) && decide (d ≤ l) else decide (f ≤ d) || decide (d ≤ l)
def pt_Rb_isWithin : zz_PT := fun As ws k _ => ∃ (d f l : Int32), As = [.int d, .int f, .int l] ∧ k (some (.int (zb (bw d f l)))) ws
set_option maxHeartbeats 4000000 in
set_option maxRecDepth 100000 in
theorem m_Rb_isWithin (l : Launch) : zz_M zz_CL l y_Rb_isWithin (Cond.code y_Rb_isWithin c_Rb_isWithin 3 (some .boolean) :: zz_big) (zz_rm 1 20 1 6) (3, false, 0, 0, pt_Rb_isWithin) := by
  refine zz_M_of (HOST := "CrewRules") (L := []) (sw := sw_Rb_isWithin) (pg := pg_Rb_isWithin) (th := th_Rb_isWithin) (ini := false) (by decide +kernel) zz_static (fun h => nomatch h) (by decide) (by decide) ok_Rb_isWithin zz_nil (fun pc E h => (nomatch h)) (zz_VC0 40 ?_)
  rintro As ws k x ⟨d, f, l2, rfl, hk⟩
  unfold bw at hk
  refine ⟨Nat.le_of_ble_eq_true rfl, ?_⟩
  refine And.intro (fun (c1 : f ≤ l2) => ?_) (fun (c1 : ¬ f ≤ l2) => ?_)
  · rw [decide_eq_true c1] at hk
    refine And.intro (fun (c2 : d < f) => ?_) (fun (c2 : ¬ d < f) => ?_)
    · rw [decide_eq_false (p := f ≤ d) (fun q => by rw [zn_le] at q; rw [zn_lt] at c2; omega)] at hk
      exact zz_eb (b := false) hk
    · rw [decide_eq_true (p := f ≤ d) (by rw [zn_le]; rw [zn_lt] at c2; omega)] at hk
      refine And.intro (fun (c3 : l2 < d) => ?_) (fun (c3 : ¬ l2 < d) => ?_)
      · rw [decide_eq_false (p := d ≤ l2) (fun q => by rw [zn_le] at q; rw [zn_lt] at c3; omega)] at hk
        exact zz_eb (b := false) hk
      · rw [decide_eq_true (p := d ≤ l2) (by rw [zn_le]; rw [zn_lt] at c3; omega)] at hk
        exact zz_eb (b := true) hk
  · rw [decide_eq_false c1] at hk
    refine And.intro (fun (c2 : f ≤ d) => ?_) (fun (c2 : ¬ f ≤ d) => ?_)
    · rw [decide_eq_true c2] at hk
      exact zz_eb (b := true) hk
    · rw [decide_eq_false c2] at hk
      refine And.intro (fun (c3 : l2 < d) => ?_) (fun (c3 : ¬ l2 < d) => ?_)
      · rw [decide_eq_false (p := d ≤ l2) (fun q => by rw [zn_le] at q; rw [zn_lt] at c3; omega)] at hk
        exact zz_eb (b := false) hk
      · rw [decide_eq_true (p := d ≤ l2) (by rw [zn_le]; rw [zn_lt] at c3; omega)] at hk
        exact zz_eb (b := true) hk
def bd (h : Int32) : Int32 := h - h / 24 * 24
/-- the skills that count as sk on day hour d, by the first j substitutes -/
def ba (wa si fh lh : qA) (sk d : Int32) : Nat → Int32
  | 0 => (1 : Int32) <<< (sk &&& 31)
  | j + 1 => bif decide (wa j = sk) && bw d (fh j) (lh j) then ba wa si fh lh sk d j ||| ((1 : Int32) <<< (si j &&& 31)) else ba wa si fh lh sk d j
def pt_Rb_acceptedFor : zz_PT := fun As ws k _ => ∃ (w : Bool) (c0 : List Value) (S : q18) (b1 : qB) (R : List va_E) (b : qB) (n : Nat) (sk h : Int32), n ≤ 10 ∧ b.2.2.2.2 = nI n ∧ As = [.ref (pB w), .int sk, .int h] ∧ ws = zB w c0 S b1 R b ∧ k (some (.int (ba b.2.2.2.1.1 b.2.2.2.1.2.1 b.2.2.2.1.2.2.1 b.2.2.2.1.2.2.2 sk (bd h) n))) ws
set_option maxHeartbeats 4000000 in
set_option maxRecDepth 100000 in
theorem m_Rb_acceptedFor (l : Launch) : zz_M zz_CL l y_Rb_acceptedFor (Cond.code y_Rb_acceptedFor c_Rb_acceptedFor 6 (some .int) :: zz_big) (zz_rm 2 42 1 6) (3, false, 0, 0, pt_Rb_acceptedFor) := by
  refine zz_M_of (HOST := "CrewRules") (L := [(1, 70, (3, false, 0, 0, pt_Rb_isWithin))]) (sw := sw_Rb_acceptedFor) (pg := pg_Rb_acceptedFor) (th := th_Rb_acceptedFor) (ini := false) (by decide +kernel) zz_static (fun h => nomatch h) (by decide) (by decide) ok_Rb_acceptedFor (zz_cons (zz_ev_S (m_Rb_isWithin l) yw_Rb_isWithin ys_Rb_isWithin lk_Rb_70 ⟨rfl, rfl, by decide, by decide⟩) zz_nil) (fun pc E h => (nomatch h)) (zz_VC1 60 13 [true, true, true, true, true, true] rfl ?_)
  rintro As ws k x ⟨w, c0, ⟨⟨tb, tl⟩, pa, ⟨rk, mr, fr, bf, un⟩, ⟨kd, sz, mb, co⟩, ⟨wh, hd, gs⟩⟩, b1, R, ⟨⟨le, ge, re, lo, nc⟩, rc, ⟨nx, nn, nk, nr⟩, ⟨wa, si, fh, lh⟩, sc⟩, m, sk, h, hm, hc, rfl, rfl, hk⟩
  dsimp only at hc hk
  subst hc
  cases w
  · refine ⟨Nat.le_of_ble_eq_true rfl, fun n ls st ws nc1 ns => ∃ (j : Nat), j ≤ m ∧ n = m - j ∧ ls = [some (.ref (pB false)), some (.int sk), some (.int h), some (.int (ba wa si fh lh sk (bd h) j)), some (.int (bd h)), some (.int (nI j))] ∧ st = [] ∧ ws = zB false c0 ((tb, tl), pa, (rk, mr, fr, bf, un), (kd, sz, mb, co), (wh, hd, gs)) b1 R ((le, ge, re, lo, nc), rc, (nx, nn, nk, nr), (wa, si, fh, lh), nI m) ∧ nc1 = 0 ∧ ns = 0, ?_, ?_⟩
    · rintro n ls st ws nc1 ns ⟨j, hj, rfl, rfl, rfl, rfl, rfl, rfl⟩
      refine And.intro (fun (c1 : nI m ≤ nI j) => ?_) (fun (c1 : ¬ nI m ≤ nI j) => ?_)
      · have : j = m := by
          have := (nI_leI (by omega) (by omega)).mp c1
          omega
        subst this
        exact zz_e0 hk
      · have hj2 : j < m := Nat.lt_of_not_le (fun z : m ≤ j => c1 (nI_le z (by omega)))
        have e2 : (nI j).toNatClampNeg = j := nI_clamp (by omega)
        have i1 := zn_in (show j < 10 by omega) (show 10 < 2 ^ 31 by decide)
        refine And.intro i1 ?_
        refine And.intro (fun (c2 : ¬ wa (nI j).toNatClampNeg = sk) => ?_) (fun (c2 : wa (nI j).toNatClampNeg = sk) => And.intro i1 (And.intro i1 (And.intro (And.intro rfl (And.intro rfl (And.intro rfl (And.intro (by decide) (by decide))))) ?_)))
        · rw [e2] at c2
          refine Exists.intro (m - (j + 1)) (And.intro (by show m - (j + 1) < m - j; omega) ⟨j + 1, hj2, rfl, ?_, rfl, rfl, rfl, rfl⟩)
          rw [show ba wa si fh lh sk (bd h) (j + 1) = ba wa si fh lh sk (bd h) j by show (bif _ then _ else _) = _; rw [decide_eq_false c2]; rfl, ← nI_1]
          rfl
        · rw [e2] at c2
          refine Exists.intro (bd h) (Exists.intro (fh (nI j).toNatClampNeg) (Exists.intro (lh (nI j).toNatClampNeg) (And.intro rfl ?_)))
          refine And.intro (fun c3 => ?_) (fun c3 => And.intro i1 ?_)
          · have c3 := zb_0.mp c3
            rw [e2] at c3
            refine Exists.intro (m - (j + 1)) (And.intro (by show m - (j + 1) < m - j; omega) ⟨j + 1, hj2, rfl, ?_, rfl, rfl, rfl, rfl⟩)
            rw [show ba wa si fh lh sk (bd h) (j + 1) = ba wa si fh lh sk (bd h) j by show (bif _ then _ else _) = _; rw [c3, Bool.and_false]; rfl, ← nI_1]
            rfl
          · have c3 := zb_n.mp c3
            rw [e2] at c3
            refine Exists.intro (m - (j + 1)) (And.intro (by show m - (j + 1) < m - j; omega) ⟨j + 1, hj2, rfl, ?_, rfl, rfl, rfl, rfl⟩)
            rw [show ba wa si fh lh sk (bd h) (j + 1) = ba wa si fh lh sk (bd h) j ||| ((1 : Int32) <<< (si (nI j).toNatClampNeg &&& 31)) by show (bif _ then _ else _) = _; rw [c3, decide_eq_true c2, e2]; rfl, ← nI_1]
            rfl
    · refine And.intro (by decide) ?_
      exact Exists.intro m (And.intro trivial ⟨0, Nat.zero_le _, rfl, rfl, rfl, rfl, rfl, rfl⟩)
  · refine ⟨Nat.le_of_ble_eq_true rfl, fun n ls st ws nc1 ns => ∃ (j : Nat), j ≤ m ∧ n = m - j ∧ ls = [some (.ref (pB true)), some (.int sk), some (.int h), some (.int (ba wa si fh lh sk (bd h) j)), some (.int (bd h)), some (.int (nI j))] ∧ st = [] ∧ ws = zB true c0 ((tb, tl), pa, (rk, mr, fr, bf, un), (kd, sz, mb, co), (wh, hd, gs)) b1 R ((le, ge, re, lo, nc), rc, (nx, nn, nk, nr), (wa, si, fh, lh), nI m) ∧ nc1 = 0 ∧ ns = 0, ?_, ?_⟩
    · rintro n ls st ws nc1 ns ⟨j, hj, rfl, rfl, rfl, rfl, rfl, rfl⟩
      refine And.intro (fun (c1 : nI m ≤ nI j) => ?_) (fun (c1 : ¬ nI m ≤ nI j) => ?_)
      · have : j = m := by
          have := (nI_leI (by omega) (by omega)).mp c1
          omega
        subst this
        exact zz_e0 hk
      · have hj2 : j < m := Nat.lt_of_not_le (fun z : m ≤ j => c1 (nI_le z (by omega)))
        have e2 : (nI j).toNatClampNeg = j := nI_clamp (by omega)
        have i1 := zn_in (show j < 10 by omega) (show 10 < 2 ^ 31 by decide)
        refine And.intro i1 ?_
        refine And.intro (fun (c2 : ¬ wa (nI j).toNatClampNeg = sk) => ?_) (fun (c2 : wa (nI j).toNatClampNeg = sk) => And.intro i1 (And.intro i1 (And.intro (And.intro rfl (And.intro rfl (And.intro rfl (And.intro (by decide) (by decide))))) ?_)))
        · rw [e2] at c2
          refine Exists.intro (m - (j + 1)) (And.intro (by show m - (j + 1) < m - j; omega) ⟨j + 1, hj2, rfl, ?_, rfl, rfl, rfl, rfl⟩)
          rw [show ba wa si fh lh sk (bd h) (j + 1) = ba wa si fh lh sk (bd h) j by show (bif _ then _ else _) = _; rw [decide_eq_false c2]; rfl, ← nI_1]
          rfl
        · rw [e2] at c2
          refine Exists.intro (bd h) (Exists.intro (fh (nI j).toNatClampNeg) (Exists.intro (lh (nI j).toNatClampNeg) (And.intro rfl ?_)))
          refine And.intro (fun c3 => ?_) (fun c3 => And.intro i1 ?_)
          · have c3 := zb_0.mp c3
            rw [e2] at c3
            refine Exists.intro (m - (j + 1)) (And.intro (by show m - (j + 1) < m - j; omega) ⟨j + 1, hj2, rfl, ?_, rfl, rfl, rfl, rfl⟩)
            rw [show ba wa si fh lh sk (bd h) (j + 1) = ba wa si fh lh sk (bd h) j by show (bif _ then _ else _) = _; rw [c3, Bool.and_false]; rfl, ← nI_1]
            rfl
          · have c3 := zb_n.mp c3
            rw [e2] at c3
            refine Exists.intro (m - (j + 1)) (And.intro (by show m - (j + 1) < m - j; omega) ⟨j + 1, hj2, rfl, ?_, rfl, rfl, rfl, rfl⟩)
            rw [show ba wa si fh lh sk (bd h) (j + 1) = ba wa si fh lh sk (bd h) j ||| ((1 : Int32) <<< (si (nI j).toNatClampNeg &&& 31)) by show (bif _ then _ else _) = _; rw [c3, decide_eq_true c2, e2]; rfl, ← nI_1]
            rfl
    · refine And.intro (by decide) ?_
      exact Exists.intro m (And.intro trivial ⟨0, Nat.zero_le _, rfl, rfl, rfl, rfl, rfl, rfl⟩)
theorem recv_Rb_acceptedFor : ∀ As ws k x, pt_Rb_acceptedFor As ws k x → ∃ q As' fs, As = .ref q :: As' ∧ ws[q]? = some (.inr (6, fs)) := by
  rintro As ws k x ⟨w, c0, S, b1, R, b, n, sk, h, hn, hc, rfl, rfl, hk⟩
  cases w <;> exact ⟨_, _, _, rfl, rfl⟩
