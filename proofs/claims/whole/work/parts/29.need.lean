/-- ~ and the rest -/
def pRest (tb : qA) (n a : Nat) (b : qB) (j : Nat) : Bool × Nat × qB := match tk tb n a 126 with
  | (false, a1) => (true, a1, b)
  | (true, a1) => ((tn tb n a1 0 24).1.isSome, (tn tb n a1 0 24).2, ((b.1.1, b.1.2.1, upd b.1.2.2.1 j (rO (tn tb n a1 0 24).1), b.1.2.2.2), b.2))
/-- ^ and the longest duty -/
def pLong (tb : qA) (n a : Nat) (b : qB) (j : Nat) : Bool × Nat × qB := match tk tb n a 94 with
  | (false, a1) => (true, a1, b)
  | (true, a1) => ((tn tb n a1 1 48).1.isSome, (tn tb n a1 1 48).2, ((b.1.1, b.1.2.1, b.1.2.2.1, upd b.1.2.2.2.1 j (rO (tn tb n a1 1 48).1), b.1.2.2.2.2), b.2))
def pt_Pa_takeRest : zz_PT := fun As ws k _ => ∃ (s : qC) (R : List va_E) (n a j : Nat), s.1.2 = nI n ∧ s.2.1 = nI a ∧ by8 s.1.1 n ∧ a ≤ n ∧ j < 10 ∧ As = [.ref 3, .ref (pS s.2.2.2.2.2.2.2.1), .int (nI j)] ∧ ws = gC s ++ R ∧ k (some (.int (zb (pRest s.1.1 n a s.2.2.2.2.2.2.1 j).1))) (gC (s.1, nI (pRest s.1.1 n a s.2.2.2.2.2.2.1 j).2.1, s.2.2.1, s.2.2.2.1, s.2.2.2.2.1, s.2.2.2.2.2.1, (pRest s.1.1 n a s.2.2.2.2.2.2.1 j).2.2, s.2.2.2.2.2.2.2) ++ R)
def pt_Pa_takeLongest : zz_PT := fun As ws k _ => ∃ (s : qC) (R : List va_E) (n a j : Nat), s.1.2 = nI n ∧ s.2.1 = nI a ∧ by8 s.1.1 n ∧ a ≤ n ∧ j < 10 ∧ As = [.ref 3, .ref (pS s.2.2.2.2.2.2.2.1), .int (nI j)] ∧ ws = gC s ++ R ∧ k (some (.int (zb (pLong s.1.1 n a s.2.2.2.2.2.2.1 j).1))) (gC (s.1, nI (pLong s.1.1 n a s.2.2.2.2.2.2.1 j).2.1, s.2.2.1, s.2.2.2.1, s.2.2.2.2.1, s.2.2.2.2.2.1, (pLong s.1.1 n a s.2.2.2.2.2.2.1 j).2.2, s.2.2.2.2.2.2.2) ++ R)
theorem tn_lt {tb : qA} {n a lo hi : Nat} (h8 : by8 tb n) (ha : a ≤ n) (hh : hi < 100) : ∀ v, (tn tb n a lo hi).1 = some v → v < 1000 := fun v h => by
  have := ((tn_le (lo := lo) (hi := hi) h8 ha).2.2 v h).2.2
  omega
set_option maxHeartbeats 4000000 in
set_option maxRecDepth 100000 in
theorem m_Pa_takeRest (l : Launch) : zz_M zz_CL l y_Pa_takeRest (Cond.code y_Pa_takeRest c_Pa_takeRest 3 (some .boolean) :: zz_big) (zz_rm 4 87 1 6) (3, false, 0, 0, pt_Pa_takeRest) := by
  refine zz_M_of (HOST := "CrewRules") (L := [(0, 30, (2, false, 0, 0, pt_Pa_take)), (0, 59, (3, false, 0, 0, pt_Pa_takeNumber))]) (sw := sw_Pa_takeRest) (pg := pg_Pa_takeRest) (th := th_Pa_takeRest) (ini := false) (by decide +kernel) zz_static (fun h => nomatch h) (by decide) (by decide) ok_Pa_takeRest (zz_cons (zz_ev_V (m_Pa_take l) yw_Pa_take yv_Pa_take lk_Pa_30 ⟨rfl, rfl, by decide, by decide⟩ (ci := 2) rfl recv_Pa_take) (zz_cons (zz_ev_V (m_Pa_takeNumber l) yw_Pa_takeNumber yv_Pa_takeNumber lk_Pa_59 ⟨rfl, rfl, by decide, by decide⟩ (ci := 2) rfl recv_Pa_takeNumber) zz_nil)) (fun pc E h => (nomatch h)) (zz_VC0 80 ?_)
  rintro As ws k x ⟨⟨⟨tb, tl⟩, pa, ⟨rk, mr, fr, bf, un⟩, ⟨kd, sz, mb, co⟩, ⟨wh, hd, gs⟩, bk, ⟨⟨le, ge, re, lo, nc⟩, rc, ⟨nx, nn, nk, nr⟩, ⟨wa, si, fh, lh⟩, sc⟩, fl, wr⟩, R, n, a, j, h1, h2, h8, ha, hj, rfl, rfl, hk⟩
  dsimp only at h1 h2 h8 hk
  subst h1; subst h2
  have hn := h8.1
  have ej : (nI j).toNatClampNeg = j := nI_clamp (by omega)
  have i1 := zn_in hj (show 10 < 2 ^ 31 by decide)
  refine ⟨Nat.le_of_ble_eq_true rfl, ?_⟩
  refine (And.intro (And.intro rfl (And.intro rfl (And.intro rfl (And.intro (by decide) (by decide))))) ?_)
  refine Exists.intro ((tb, (nI n)), (nI a), (rk, mr, fr, bf, un), (kd, sz, mb, co), (wh, hd, gs), bk, ((le, ge, re, lo, nc), rc, (nx, nn, nk, nr), (wa, si, fh, lh), sc), fl, wr) (Exists.intro R (Exists.intro n (Exists.intro a (Exists.intro 126 (And.intro rfl (And.intro rfl (And.intro hn (And.intro (by omega) (And.intro rfl (And.intro rfl (?_)))))))))))
  have hb := tk_le (tb := tb) (n := n) (a := a) (c := 126) (by decide) ha
  unfold pRest at hk
  rcases ht : tk tb n a 126 with ⟨_ | _, a1⟩
  · rw [ht] at hk hb
    exact And.intro (fun (q : ¬ zb false = 0) => absurd rfl q) (fun _ => zz_eb (b := true) hk)
  · rw [ht] at hk hb
    dsimp only at hk hb
    have hr := rO_m (tn_lt (lo := 0) (hi := 24) h8 hb.2.1 (by decide))
    have er : upd re (nI j).toNatClampNeg (rO (tn tb n a1 0 24).1) (nI j).toNatClampNeg = rO (tn tb n a1 0 24).1 := pk_us
    have hk2 : k (some (.int (zb (tn tb n a1 0 24).1.isSome))) (gC ((tb, (nI n)), (nI (tn tb n a1 0 24).2), (rk, mr, fr, bf, un), (kd, sz, mb, co), (wh, hd, gs), bk, ((le, ge, upd re (nI j).toNatClampNeg (rO (tn tb n a1 0 24).1), lo, nc), rc, (nx, nn, nk, nr), (wa, si, fh, lh), sc), fl, wr) ++ R) := by
      simp only [ej]
      exact hk
    cases fl
    · refine And.intro (fun (q : ¬ zb true = 0) => ?_) (fun (q : zb true = 0) => absurd q (by decide))
      refine (And.intro (And.intro rfl (And.intro rfl (And.intro rfl (And.intro (by decide) (by decide))))) ?_)
      refine Exists.intro ((tb, (nI n)), (nI a1), (rk, mr, fr, bf, un), (kd, sz, mb, co), (wh, hd, gs), bk, ((le, ge, re, lo, nc), rc, (nx, nn, nk, nr), (wa, si, fh, lh), sc), false, wr) (Exists.intro R (Exists.intro n (Exists.intro a1 (Exists.intro 0 (Exists.intro 24 (And.intro rfl (And.intro rfl (And.intro h8 (And.intro (by omega) (And.intro (by omega) (And.intro (by omega) (And.intro rfl (And.intro rfl (?_))))))))))))))
      refine And.intro i1 (And.intro i1 (And.intro (fun (c1 : upd re (nI j).toNatClampNeg (rO (tn tb n a1 0 24).1) (nI j).toNatClampNeg = -1) => ?_) (fun (c1 : ¬ upd re (nI j).toNatClampNeg (rO (tn tb n a1 0 24).1) (nI j).toNatClampNeg = -1) => ?_)))
      · rw [er, hr] at c1
        rw [c1] at hk2
        rw [show (rO none : Int32) = rO (tn tb n a1 0 24).1 by rw [c1]] at hk2
        exact zz_eb (b := false) hk2
      · rw [er, hr] at c1
        rw [show (tn tb n a1 0 24).1.isSome = true by cases hq : (tn tb n a1 0 24).1 with | none => exact absurd hq c1 | some v => rfl] at hk2
        exact zz_eb (b := true) hk2
    · refine And.intro (fun (q : ¬ zb true = 0) => ?_) (fun (q : zb true = 0) => absurd q (by decide))
      refine (And.intro (And.intro rfl (And.intro rfl (And.intro rfl (And.intro (by decide) (by decide))))) ?_)
      refine Exists.intro ((tb, (nI n)), (nI a1), (rk, mr, fr, bf, un), (kd, sz, mb, co), (wh, hd, gs), bk, ((le, ge, re, lo, nc), rc, (nx, nn, nk, nr), (wa, si, fh, lh), sc), true, wr) (Exists.intro R (Exists.intro n (Exists.intro a1 (Exists.intro 0 (Exists.intro 24 (And.intro rfl (And.intro rfl (And.intro h8 (And.intro (by omega) (And.intro (by omega) (And.intro (by omega) (And.intro rfl (And.intro rfl (?_))))))))))))))
      refine And.intro i1 (And.intro i1 (And.intro (fun (c1 : upd re (nI j).toNatClampNeg (rO (tn tb n a1 0 24).1) (nI j).toNatClampNeg = -1) => ?_) (fun (c1 : ¬ upd re (nI j).toNatClampNeg (rO (tn tb n a1 0 24).1) (nI j).toNatClampNeg = -1) => ?_)))
      · rw [er, hr] at c1
        rw [c1] at hk2
        rw [show (rO none : Int32) = rO (tn tb n a1 0 24).1 by rw [c1]] at hk2
        exact zz_eb (b := false) hk2
      · rw [er, hr] at c1
        rw [show (tn tb n a1 0 24).1.isSome = true by cases hq : (tn tb n a1 0 24).1 with | none => exact absurd hq c1 | some v => rfl] at hk2
        exact zz_eb (b := true) hk2
theorem recv_Pa_takeRest : ∀ As ws k x, pt_Pa_takeRest As ws k x → ∃ q As' fs, As = .ref q :: As' ∧ ws[q]? = some (.inr (2, fs)) := by
  rintro As ws k x ⟨s, R, n, a, j, h1, h2, h8, ha, hj, rfl, rfl, hk⟩
  exact ⟨_, _, _, rfl, rfl⟩
set_option maxHeartbeats 4000000 in
set_option maxRecDepth 100000 in
theorem m_Pa_takeLongest (l : Launch) : zz_M zz_CL l y_Pa_takeLongest (Cond.code y_Pa_takeLongest c_Pa_takeLongest 3 (some .boolean) :: zz_big) (zz_rm 4 87 1 6) (3, false, 0, 0, pt_Pa_takeLongest) := by
  refine zz_M_of (HOST := "CrewRules") (L := [(0, 30, (2, false, 0, 0, pt_Pa_take)), (0, 59, (3, false, 0, 0, pt_Pa_takeNumber))]) (sw := sw_Pa_takeLongest) (pg := pg_Pa_takeLongest) (th := th_Pa_takeLongest) (ini := false) (by decide +kernel) zz_static (fun h => nomatch h) (by decide) (by decide) ok_Pa_takeLongest (zz_cons (zz_ev_V (m_Pa_take l) yw_Pa_take yv_Pa_take lk_Pa_30 ⟨rfl, rfl, by decide, by decide⟩ (ci := 2) rfl recv_Pa_take) (zz_cons (zz_ev_V (m_Pa_takeNumber l) yw_Pa_takeNumber yv_Pa_takeNumber lk_Pa_59 ⟨rfl, rfl, by decide, by decide⟩ (ci := 2) rfl recv_Pa_takeNumber) zz_nil)) (fun pc E h => (nomatch h)) (zz_VC0 80 ?_)
  rintro As ws k x ⟨⟨⟨tb, tl⟩, pa, ⟨rk, mr, fr, bf, un⟩, ⟨kd, sz, mb, co⟩, ⟨wh, hd, gs⟩, bk, ⟨⟨le, ge, re, lo, nc⟩, rc, ⟨nx, nn, nk, nr⟩, ⟨wa, si, fh, lh⟩, sc⟩, fl, wr⟩, R, n, a, j, h1, h2, h8, ha, hj, rfl, rfl, hk⟩
  dsimp only at h1 h2 h8 hk
  subst h1; subst h2
  have hn := h8.1
  have ej : (nI j).toNatClampNeg = j := nI_clamp (by omega)
  have i1 := zn_in hj (show 10 < 2 ^ 31 by decide)
  refine ⟨Nat.le_of_ble_eq_true rfl, ?_⟩
  refine (And.intro (And.intro rfl (And.intro rfl (And.intro rfl (And.intro (by decide) (by decide))))) ?_)
  refine Exists.intro ((tb, (nI n)), (nI a), (rk, mr, fr, bf, un), (kd, sz, mb, co), (wh, hd, gs), bk, ((le, ge, re, lo, nc), rc, (nx, nn, nk, nr), (wa, si, fh, lh), sc), fl, wr) (Exists.intro R (Exists.intro n (Exists.intro a (Exists.intro 94 (And.intro rfl (And.intro rfl (And.intro hn (And.intro (by omega) (And.intro rfl (And.intro rfl (?_)))))))))))
  have hb := tk_le (tb := tb) (n := n) (a := a) (c := 94) (by decide) ha
  unfold pLong at hk
  rcases ht : tk tb n a 94 with ⟨_ | _, a1⟩
  · rw [ht] at hk hb
    exact And.intro (fun (q : ¬ zb false = 0) => absurd rfl q) (fun _ => zz_eb (b := true) hk)
  · rw [ht] at hk hb
    dsimp only at hk hb
    have hr := rO_m (tn_lt (lo := 1) (hi := 48) h8 hb.2.1 (by decide))
    have er : upd lo (nI j).toNatClampNeg (rO (tn tb n a1 1 48).1) (nI j).toNatClampNeg = rO (tn tb n a1 1 48).1 := pk_us
    have hk2 : k (some (.int (zb (tn tb n a1 1 48).1.isSome))) (gC ((tb, (nI n)), (nI (tn tb n a1 1 48).2), (rk, mr, fr, bf, un), (kd, sz, mb, co), (wh, hd, gs), bk, ((le, ge, re, upd lo (nI j).toNatClampNeg (rO (tn tb n a1 1 48).1), nc), rc, (nx, nn, nk, nr), (wa, si, fh, lh), sc), fl, wr) ++ R) := by
      simp only [ej]
      exact hk
    cases fl
    · refine And.intro (fun (q : ¬ zb true = 0) => ?_) (fun (q : zb true = 0) => absurd q (by decide))
      refine (And.intro (And.intro rfl (And.intro rfl (And.intro rfl (And.intro (by decide) (by decide))))) ?_)
      refine Exists.intro ((tb, (nI n)), (nI a1), (rk, mr, fr, bf, un), (kd, sz, mb, co), (wh, hd, gs), bk, ((le, ge, re, lo, nc), rc, (nx, nn, nk, nr), (wa, si, fh, lh), sc), false, wr) (Exists.intro R (Exists.intro n (Exists.intro a1 (Exists.intro 1 (Exists.intro 48 (And.intro rfl (And.intro rfl (And.intro h8 (And.intro (by omega) (And.intro (by omega) (And.intro (by omega) (And.intro rfl (And.intro rfl (?_))))))))))))))
      refine And.intro i1 (And.intro i1 (And.intro (fun (c1 : upd lo (nI j).toNatClampNeg (rO (tn tb n a1 1 48).1) (nI j).toNatClampNeg = -1) => ?_) (fun (c1 : ¬ upd lo (nI j).toNatClampNeg (rO (tn tb n a1 1 48).1) (nI j).toNatClampNeg = -1) => ?_)))
      · rw [er, hr] at c1
        rw [c1] at hk2
        rw [show (rO none : Int32) = rO (tn tb n a1 1 48).1 by rw [c1]] at hk2
        exact zz_eb (b := false) hk2
      · rw [er, hr] at c1
        rw [show (tn tb n a1 1 48).1.isSome = true by cases hq : (tn tb n a1 1 48).1 with | none => exact absurd hq c1 | some v => rfl] at hk2
        exact zz_eb (b := true) hk2
    · refine And.intro (fun (q : ¬ zb true = 0) => ?_) (fun (q : zb true = 0) => absurd q (by decide))
      refine (And.intro (And.intro rfl (And.intro rfl (And.intro rfl (And.intro (by decide) (by decide))))) ?_)
      refine Exists.intro ((tb, (nI n)), (nI a1), (rk, mr, fr, bf, un), (kd, sz, mb, co), (wh, hd, gs), bk, ((le, ge, re, lo, nc), rc, (nx, nn, nk, nr), (wa, si, fh, lh), sc), true, wr) (Exists.intro R (Exists.intro n (Exists.intro a1 (Exists.intro 1 (Exists.intro 48 (And.intro rfl (And.intro rfl (And.intro h8 (And.intro (by omega) (And.intro (by omega) (And.intro (by omega) (And.intro rfl (And.intro rfl (?_))))))))))))))
      refine And.intro i1 (And.intro i1 (And.intro (fun (c1 : upd lo (nI j).toNatClampNeg (rO (tn tb n a1 1 48).1) (nI j).toNatClampNeg = -1) => ?_) (fun (c1 : ¬ upd lo (nI j).toNatClampNeg (rO (tn tb n a1 1 48).1) (nI j).toNatClampNeg = -1) => ?_)))
      · rw [er, hr] at c1
        rw [c1] at hk2
        rw [show (rO none : Int32) = rO (tn tb n a1 1 48).1 by rw [c1]] at hk2
        exact zz_eb (b := false) hk2
      · rw [er, hr] at c1
        rw [show (tn tb n a1 1 48).1.isSome = true by cases hq : (tn tb n a1 1 48).1 with | none => exact absurd hq c1 | some v => rfl] at hk2
        exact zz_eb (b := true) hk2
theorem recv_Pa_takeLongest : ∀ As ws k x, pt_Pa_takeLongest As ws k x → ∃ q As' fs, As = .ref q :: As' ∧ ws[q]? = some (.inr (2, fs)) := by
  rintro As ws k x ⟨s, R, n, a, j, h1, h2, h8, ha, hj, rfl, rfl, hk⟩
  exact ⟨_, _, _, rfl, rfl⟩
/-- one need more -/
def bNeed (b : qB) (j i : Nat) (ex : Bool) (u v y : Int32) : qB := ((b.1.1, b.1.2.1, b.1.2.2.1, b.1.2.2.2.1, upd b.1.2.2.2.2 j (nI (i + 1))), b.2.1, (upd b.2.2.1.1 (6 * j + i) (zb ex), upd b.2.2.1.2.1 (6 * j + i) u, upd b.2.2.1.2.2.1 (6 * j + i) v, upd b.2.2.1.2.2.2 (6 * j + i) y), b.2.2.2)
def pNeed (tb : qA) (n a : Nat) (b : qB) (j i : Nat) : Bool × Nat × qB := match tk tb n a 61 with
  | (ex, a1) => match tn tb n a1 0 9 with
    | (none, a2) => (false, a2, b)
    | (some v, a2) => match tsk tb n a2 with
      | (none, a3) => (false, a3, b)
      | (some s, a3) => match tk tb n a3 62 with
        | (false, a4) => (true, a4, bNeed b j i ex (nI v) (nI s) 0)
        | (true, a4) => match tn tb n a4 0 9 with
          | (none, a5) => (false, a5, b)
          | (some r, a5) => (true, a5, bNeed b j i ex (nI v) (nI s) (nI r))
theorem tsk_le {tb : qA} {n a : Nat} (h8 : by8 tb n) (h : a ≤ n) : a ≤ (tsk tb n a).2 ∧ (tsk tb n a).2 ≤ n ∧ ∀ v, (tsk tb n a).1 = some v → v < 10 ∧ a < (tsk tb n a).2 := by
  have hb := sk_b (tb := tb) h
  rcases tsk_cases h8 h with ⟨h1, -⟩ | ⟨d, hd, h1, -, h2, -⟩
  · rw [h1]; exact ⟨hb.1, hb.2, fun v z => by cases z⟩
  · rw [h1]; exact ⟨by dsimp only; omega, by dsimp only; omega, fun v z => by cases z; exact ⟨hd, by dsimp only; omega⟩⟩
def pt_Pa_takeNeed : zz_PT := fun As ws k _ => ∃ (s : qC) (R : List va_E) (n a j i : Nat), s.1.2 = nI n ∧ s.2.1 = nI a ∧ by8 s.1.1 n ∧ a ≤ n ∧ j < 10 ∧ i < 6 ∧ s.2.2.2.2.2.2.1.1.2.2.2.2 j = nI i ∧ As = [.ref 3, .ref (pS s.2.2.2.2.2.2.2.1), .int (nI j)] ∧ ws = gC s ++ R ∧ k (some (.int (zb (pNeed s.1.1 n a s.2.2.2.2.2.2.1 j i).1))) (gC (s.1, nI (pNeed s.1.1 n a s.2.2.2.2.2.2.1 j i).2.1, s.2.2.1, s.2.2.2.1, s.2.2.2.2.1, s.2.2.2.2.2.1, (pNeed s.1.1 n a s.2.2.2.2.2.2.1 j i).2.2, s.2.2.2.2.2.2.2) ++ R)
theorem rO_some {v : Nat} (h : v < 1000) : ¬ rO (some v) = -1 := fun q => by
  have := (rO_m (r := some v) (fun w hw => by cases hw; exact h)).mp q
  cases this
set_option maxHeartbeats 4000000 in
set_option maxRecDepth 100000 in
theorem m_Pa_takeNeed (l : Launch) : zz_M zz_CL l y_Pa_takeNeed (Cond.code y_Pa_takeNeed c_Pa_takeNeed 7 (some .boolean) :: zz_big) (zz_rm 4 87 1 6) (3, false, 0, 0, pt_Pa_takeNeed) := by
  refine zz_M_of (HOST := "CrewRules") (L := [(0, 30, (2, false, 0, 0, pt_Pa_take)), (0, 59, (3, false, 0, 0, pt_Pa_takeNumber)), (0, 77, (1, false, 0, 0, pt_Pa_takeSkill)), (0, 80, (6, false, 0, 0, pt_Rb_addNeed))]) (sw := sw_Pa_takeNeed) (pg := pg_Pa_takeNeed) (th := th_Pa_takeNeed) (ini := false) (by decide +kernel) zz_static (fun h => nomatch h) (by decide) (by decide) ok_Pa_takeNeed (zz_cons (zz_ev_V (m_Pa_take l) yw_Pa_take yv_Pa_take lk_Pa_30 ⟨rfl, rfl, by decide, by decide⟩ (ci := 2) rfl recv_Pa_take) (zz_cons (zz_ev_V (m_Pa_takeNumber l) yw_Pa_takeNumber yv_Pa_takeNumber lk_Pa_59 ⟨rfl, rfl, by decide, by decide⟩ (ci := 2) rfl recv_Pa_takeNumber) (zz_cons (zz_ev_V (m_Pa_takeSkill l) yw_Pa_takeSkill yv_Pa_takeSkill lk_Pa_77 ⟨rfl, rfl, by decide, by decide⟩ (ci := 2) rfl recv_Pa_takeSkill) (zz_cons (zz_ev_V (m_Rb_addNeed l) yw_Rb_addNeed yv_Rb_addNeed lk_Pa_80 ⟨rfl, rfl, by decide, by decide⟩ (ci := 6) rfl recv_Rb_addNeed) zz_nil)))) (fun pc E h => (nomatch h)) (zz_VC0 120 ?_)
  rintro As ws k x ⟨⟨⟨tb, tl⟩, pa, ⟨rk, mr, fr, bf, un⟩, ⟨kd, sz, mb, co⟩, ⟨wh, hd, gs⟩, bk, ⟨⟨le, ge, re, lo, nc⟩, rc, ⟨nx, nn, nk, nr⟩, ⟨wa, si, fh, lh⟩, sc⟩, fl, wr⟩, R, n, a, j, i, h1, h2, h8, ha, hj, hi, hc, rfl, rfl, hk⟩
  dsimp only at h1 h2 h8 hc hk
  subst h1; subst h2
  have hn := h8.1
  refine ⟨Nat.le_of_ble_eq_true rfl, ?_⟩
  refine (And.intro (And.intro rfl (And.intro rfl (And.intro rfl (And.intro (by decide) (by decide))))) ?_)
  refine Exists.intro ((tb, (nI n)), (nI a), (rk, mr, fr, bf, un), (kd, sz, mb, co), (wh, hd, gs), bk, ((le, ge, re, lo, nc), rc, (nx, nn, nk, nr), (wa, si, fh, lh), sc), fl, wr) (Exists.intro R (Exists.intro n (Exists.intro a (Exists.intro 61 (And.intro rfl (And.intro rfl (And.intro hn (And.intro (by omega) (And.intro rfl (And.intro rfl (?_)))))))))))
  have hb := tk_le (tb := tb) (n := n) (a := a) (c := 61) (by decide) ha
  unfold pNeed at hk
  rcases ht : tk tb n a 61 with ⟨ex, a1⟩
  rw [ht] at hk hb
  dsimp only at hk hb
  refine (And.intro (And.intro rfl (And.intro rfl (And.intro rfl (And.intro (by decide) (by decide))))) ?_)
  refine Exists.intro ((tb, (nI n)), (nI a1), (rk, mr, fr, bf, un), (kd, sz, mb, co), (wh, hd, gs), bk, ((le, ge, re, lo, nc), rc, (nx, nn, nk, nr), (wa, si, fh, lh), sc), fl, wr) (Exists.intro R (Exists.intro n (Exists.intro a1 (Exists.intro 0 (Exists.intro 9 (And.intro rfl (And.intro rfl (And.intro h8 (And.intro (by omega) (And.intro (by omega) (And.intro (by omega) (And.intro rfl (And.intro rfl (?_))))))))))))))
  have hb1 := tn_le (lo := 0) (hi := 9) h8 (show a1 ≤ n by omega)
  rcases ht1 : tn tb n a1 0 9 with ⟨_ | v, a2⟩
  · rw [ht1] at hk hb1
    exact And.intro (fun (q : ¬ rO none = -1) => absurd rfl q) (fun _ => zz_eb (b := false) hk)
  · rw [ht1] at hk hb1
    dsimp only at hk hb1
    have hv := (hb1.2.2 v rfl).2
    refine And.intro (fun _ => ?_) (fun (q : rO (some v) = -1) => absurd q (rO_some (by omega)))
    refine (And.intro (And.intro rfl (And.intro rfl (And.intro rfl (And.intro (by decide) (by decide))))) ?_)
    refine Exists.intro ((tb, (nI n)), (nI a2), (rk, mr, fr, bf, un), (kd, sz, mb, co), (wh, hd, gs), bk, ((le, ge, re, lo, nc), rc, (nx, nn, nk, nr), (wa, si, fh, lh), sc), fl, wr) (Exists.intro R (Exists.intro n (Exists.intro a2 (And.intro rfl (And.intro rfl (And.intro h8 (And.intro (by omega) (And.intro rfl (And.intro rfl (?_))))))))))
    have hb2 := tsk_le h8 (show a2 ≤ n by omega)
    rcases ht2 : tsk tb n a2 with ⟨_ | s, a3⟩
    · rw [ht2] at hk hb2
      exact And.intro (fun (q : ¬ rO none = -1) => absurd rfl q) (fun _ => zz_eb (b := false) hk)
    · rw [ht2] at hk hb2
      dsimp only at hk hb2
      have hs := hb2.2.2 s rfl
      refine And.intro (fun _ => ?_) (fun (q : rO (some s) = -1) => absurd q (rO_some (by omega)))
      refine (And.intro (And.intro rfl (And.intro rfl (And.intro rfl (And.intro (by decide) (by decide))))) ?_)
      refine Exists.intro ((tb, (nI n)), (nI a3), (rk, mr, fr, bf, un), (kd, sz, mb, co), (wh, hd, gs), bk, ((le, ge, re, lo, nc), rc, (nx, nn, nk, nr), (wa, si, fh, lh), sc), fl, wr) (Exists.intro R (Exists.intro n (Exists.intro a3 (Exists.intro 62 (And.intro rfl (And.intro rfl (And.intro hn (And.intro (by omega) (And.intro rfl (And.intro rfl (?_)))))))))))
      have hb3 := tk_le (tb := tb) (n := n) (a := a3) (c := 62) (by decide) (show a3 ≤ n by omega)
      rcases ht3 : tk tb n a3 62 with ⟨_ | _, a4⟩
      · rw [ht3] at hk hb3
        dsimp only at hk hb3
        refine And.intro (fun _ => ?_) (fun (q : ¬ zb false = 0) => absurd rfl q)
        refine And.intro (fun _ => ?_) (fun (q : (0 : Int32) = -1) => absurd q (by decide))
        refine (And.intro (And.intro rfl (And.intro rfl (And.intro rfl (And.intro (by decide) (by decide))))) ?_)
        cases fl
        · refine Exists.intro true (Exists.intro [.ref 1, .ref 3, .ref 4, .ref 10, .ref 15, .ref 18, .ref 32, .int wr] (Exists.intro ((tb, nI n), nI a4, (rk, mr, fr, bf, un), (kd, sz, mb, co), (wh, hd, gs)) (Exists.intro bk (Exists.intro R (Exists.intro ((le, ge, re, lo, nc), rc, (nx, nn, nk, nr), (wa, si, fh, lh), sc) (Exists.intro j (Exists.intro i (Exists.intro ex (Exists.intro (nI v) (Exists.intro (nI s) (Exists.intro 0 (And.intro hj (And.intro hi (And.intro hc (And.intro rfl (And.intro rfl (?_)))))))))))))))))
          exact zz_eb (b := true) hk
        · refine Exists.intro false (Exists.intro [.ref 1, .ref 3, .ref 4, .ref 10, .ref 15, .ref 32, .ref 18, .int wr] (Exists.intro ((tb, nI n), nI a4, (rk, mr, fr, bf, un), (kd, sz, mb, co), (wh, hd, gs)) (Exists.intro bk (Exists.intro (gB 32 bk ++ R) (Exists.intro ((le, ge, re, lo, nc), rc, (nx, nn, nk, nr), (wa, si, fh, lh), sc) (Exists.intro j (Exists.intro i (Exists.intro ex (Exists.intro (nI v) (Exists.intro (nI s) (Exists.intro 0 (And.intro hj (And.intro hi (And.intro hc (And.intro rfl (And.intro rfl (?_)))))))))))))))))
          exact zz_eb (b := true) hk
      · rw [ht3] at hk hb3
        dsimp only at hk hb3
        refine And.intro (fun (q : zb true = 0) => absurd q (by decide)) (fun _ => ?_)
        refine (And.intro (And.intro rfl (And.intro rfl (And.intro rfl (And.intro (by decide) (by decide))))) ?_)
        refine Exists.intro ((tb, (nI n)), (nI a4), (rk, mr, fr, bf, un), (kd, sz, mb, co), (wh, hd, gs), bk, ((le, ge, re, lo, nc), rc, (nx, nn, nk, nr), (wa, si, fh, lh), sc), fl, wr) (Exists.intro R (Exists.intro n (Exists.intro a4 (Exists.intro 0 (Exists.intro 9 (And.intro rfl (And.intro rfl (And.intro h8 (And.intro (by omega) (And.intro (by omega) (And.intro (by omega) (And.intro rfl (And.intro rfl (?_))))))))))))))
        have hb4 := tn_le (lo := 0) (hi := 9) h8 (show a4 ≤ n by omega)
        rcases ht4 : tn tb n a4 0 9 with ⟨_ | r, a5⟩
        · rw [ht4] at hk hb4
          exact And.intro (fun (q : ¬ rO none = -1) => absurd rfl q) (fun _ => zz_eb (b := false) hk)
        · rw [ht4] at hk hb4
          dsimp only at hk hb4
          have hr := (hb4.2.2 r rfl).2
          refine And.intro (fun _ => ?_) (fun (q : rO (some r) = -1) => absurd q (rO_some (by omega)))
          refine (And.intro (And.intro rfl (And.intro rfl (And.intro rfl (And.intro (by decide) (by decide))))) ?_)
          cases fl
          · refine Exists.intro true (Exists.intro [.ref 1, .ref 3, .ref 4, .ref 10, .ref 15, .ref 18, .ref 32, .int wr] (Exists.intro ((tb, nI n), nI a5, (rk, mr, fr, bf, un), (kd, sz, mb, co), (wh, hd, gs)) (Exists.intro bk (Exists.intro R (Exists.intro ((le, ge, re, lo, nc), rc, (nx, nn, nk, nr), (wa, si, fh, lh), sc) (Exists.intro j (Exists.intro i (Exists.intro ex (Exists.intro (nI v) (Exists.intro (nI s) (Exists.intro (nI r) (And.intro hj (And.intro hi (And.intro hc (And.intro rfl (And.intro rfl (?_)))))))))))))))))
            exact zz_eb (b := true) hk
          · refine Exists.intro false (Exists.intro [.ref 1, .ref 3, .ref 4, .ref 10, .ref 15, .ref 32, .ref 18, .int wr] (Exists.intro ((tb, nI n), nI a5, (rk, mr, fr, bf, un), (kd, sz, mb, co), (wh, hd, gs)) (Exists.intro bk (Exists.intro (gB 32 bk ++ R) (Exists.intro ((le, ge, re, lo, nc), rc, (nx, nn, nk, nr), (wa, si, fh, lh), sc) (Exists.intro j (Exists.intro i (Exists.intro ex (Exists.intro (nI v) (Exists.intro (nI s) (Exists.intro (nI r) (And.intro hj (And.intro hi (And.intro hc (And.intro rfl (And.intro rfl (?_)))))))))))))))))
            exact zz_eb (b := true) hk
theorem recv_Pa_takeNeed : ∀ As ws k x, pt_Pa_takeNeed As ws k x → ∃ q As' fs, As = .ref q :: As' ∧ ws[q]? = some (.inr (2, fs)) := by
  rintro As ws k x ⟨s, R, n, a, j, i, h1, h2, h8, ha, hj, hi, hc, rfl, rfl, hk⟩
  exact ⟨_, _, _, rfl, rfl⟩
