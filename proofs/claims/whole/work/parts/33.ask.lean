/-! ===== CrewRules: what is asked ===== -/
theorem sc_nI {v : Int32} {q : Nat} (hq : q < 2 ^ 31) (h : v = nI q) : v.toNatClampNeg = q := by rw [h]; exact nI_clamp hq
/-- the skills that count as sk at hour h -/
def bAcc (b : qB) (sk h : Int32) : Int32 := ba b.2.2.2.1.1 b.2.2.2.1.2.1 b.2.2.2.1.2.2.1 b.2.2.2.1.2.2.2 sk (bd h) b.2.2.2.2.toNatClampNeg
/-- how many of L do for need e -/
def nC (p : qP) (b : qB) (L : List Nat) (h : Int32) (e : Nat) : Nat := L.countP (gq (fun i => ph p.2.2.2.2 i h 10) p.1 p.2.1 (bAcc b (b.2.2.1.2.2.1 e) h) (b.2.2.1.2.2.2 e))
/-- is need i of kind j not met -/
def nU (p : qP) (b : qB) (L : List Nat) (h : Int32) (j i : Nat) : Bool := (!decide (b.2.2.1.1 (6 * j + i) = 0) && decide (b.2.2.1.2.1 (6 * j + i) < nI (nC p b L h (6 * j + i)))) || decide (nI (nC p b L h (6 * j + i)) < b.2.2.1.2.1 (6 * j + i))
def aN (f : Nat → Bool) : Nat → Bool
  | 0 => false
  | j + 1 => aN f j || f j
def fN (f : Nat → Bool) : Nat → Option Nat
  | 0 => none
  | j + 1 => match fN f j with
    | some i => some i
    | none => bif f j then some j else none
theorem fN_mono {f : Nat → Bool} {i j : Nat} (h : fN f j = some i) : ∀ n, j ≤ n → fN f n = some i := by
  intro n
  induction n with
  | zero => intro q; rw [show j = 0 by omega] at h; exact h
  | succ n ih =>
    intro q
    rcases Nat.lt_or_ge n j with z | z
    · rw [show n + 1 = j by omega]; exact h
    · unfold fN; rw [ih z]
theorem aN_mono {f : Nat → Bool} {j : Nat} (h : aN f j = true) : ∀ n, j ≤ n → aN f n = true := by
  intro n
  induction n with
  | zero => intro q; rw [show j = 0 by omega] at h; exact h
  | succ n ih =>
    intro q
    rcases Nat.lt_or_ge n j with z | z
    · rw [show n + 1 = j by omega]; exact h
    · unfold aN; rw [ih z]; rfl
def nB (p : qP) (b : qB) (L : List Nat) (h : Int32) (j : Nat) : Bool := decide (nI (L.countP (fun i => !decide (ph p.2.2.2.2 i h 10 = 0))) < b.1.1 j) || aN (fun i => decide (nI (nC p b L h (6 * j + i)) < b.2.2.1.2.1 (6 * j + i))) (b.1.2.2.2.2 j).toNatClampNeg
/-- the i-th kind from k on of which f holds -/
def nV (f : Nat → Bool) : Nat → Nat → Int32 → Int32
  | 0, _, _ => 0
  | d + 1, k, left => bif f k then (bif decide (left = 0) then nI k else nV f d (k + 1) (left - 1)) else nV f d (k + 1) left
/-- a book is in order -/
def wfB (b : qB) : Prop := (∃ q, q ≤ 10 ∧ b.2.2.2.2 = nI q) ∧ ∀ j, j < 10 → ¬ b.1.1 j = -1 → ∃ m, m ≤ 6 ∧ b.1.2.2.2.2 j = nI m
/-- the gathered group is L, what each has at h is noted -/
def gH (s : qC) (L : List Nat) (h : Int32) : Prop := gk s.2.2.2.2.1.1 s.2.2.2.2.1.2.2 L ∧ ∀ (j p : Nat), L[j]? = some p → s.2.2.2.2.1.2.1 j = ph s.2.2.1.2.2.2.2 p h 10
def pt_Cr_countForNeed : zz_PT := fun As ws k _ => ∃ (s : qC) (R : List va_E) (L : List Nat) (h : Int32) (e : Nat), gH s L h ∧ (∃ q, q ≤ 10 ∧ s.2.2.2.2.2.1.2.2.2.2 = nI q) ∧ e < 60 ∧ As = [.ref 0, .int (nI e), .int h] ∧ ws = gC s ++ R ∧ k (some (.int (nI (nC s.2.2.1 s.2.2.2.2.2.1 L h e)))) ws
set_option maxHeartbeats 4000000 in
set_option maxRecDepth 100000 in
theorem m_Cr_countForNeed (l : Launch) : zz_M zz_CL l y_Cr_countForNeed (Cond.code y_Cr_countForNeed c_Cr_countForNeed 3 (some .int) :: zz_big) (zz_rm 3 67 1 6) (3, false, 0, 0, pt_Cr_countForNeed) := by
  refine zz_M_of (HOST := "CrewRules") (L := [(0, 193, (3, false, 0, 0, pt_Rb_acceptedFor)), (0, 196, (3, false, 0, 0, pt_Gr_countSkilled))]) (sw := sw_Cr_countForNeed) (pg := pg_Cr_countForNeed) (th := th_Cr_countForNeed) (ini := false) (by decide +kernel) zz_static (fun h => nomatch h) (by decide) (by decide) ok_Cr_countForNeed (zz_cons (zz_ev_V (m_Rb_acceptedFor l) yw_Rb_acceptedFor yv_Rb_acceptedFor lk_Cr_193 ⟨rfl, rfl, by decide, by decide⟩ (ci := 6) rfl recv_Rb_acceptedFor) (zz_cons (zz_ev_V (m_Gr_countSkilled l) yw_Gr_countSkilled yv_Gr_countSkilled lk_Cr_196 ⟨rfl, rfl, by decide, by decide⟩ (ci := 5) rfl recv_Gr_countSkilled) zz_nil)) (fun pc E h => (nomatch h)) (zz_VC0 60 ?_)
  rintro As ws k x ⟨⟨⟨tb, tl⟩, pa, ⟨rk, mr, fr, bf, un⟩, ⟨kd, sz, mb, co⟩, ⟨wh, hd, gs⟩, ⟨⟨le, ge, re, lo, nc⟩, rc, ⟨nx, nn, nk, nr⟩, ⟨wa, si, fh, lh⟩, sc⟩, sp, fl, wr⟩, R, L, h, e, hg, ⟨q, hq, hc⟩, he, rfl, rfl, hk⟩
  have ee : (nI e).toNatClampNeg = e := nI_clamp (by omega)
  have i1 := zn_in he (show 60 < 2 ^ 31 by decide)
  dsimp only at hc
  have hk2 : k (some (.int (nI (L.countP (gq (fun i => ph un i h 10) rk mr (ba wa si fh lh (nk (nI e).toNatClampNeg) (bd h) q) (nr (nI e).toNatClampNeg)))))) (gC ((tb, tl), pa, (rk, mr, fr, bf, un), (kd, sz, mb, co), (wh, hd, gs), ((le, ge, re, lo, nc), rc, (nx, nn, nk, nr), (wa, si, fh, lh), sc), sp, fl, wr) ++ R) := by
    rw [ee]
    unfold nC bAcc at hk
    dsimp only at hk
    rw [sc_nI (by omega) hc] at hk
    exact hk
  cases fl
  · skip
    refine ⟨Nat.le_of_ble_eq_true rfl, And.intro i1 ?_⟩
    refine (And.intro (And.intro rfl (And.intro rfl (And.intro rfl (And.intro (by decide) (by decide))))) ?_)
    refine Exists.intro false (Exists.intro [.ref 1, .ref 3, .ref 4, .ref 10, .ref 15, .ref 18, .ref 32, .int wr] (Exists.intro ((tb, tl), pa, (rk, mr, fr, bf, un), (kd, sz, mb, co), (wh, hd, gs)) (Exists.intro sp (Exists.intro (gB 32 sp ++ R) (Exists.intro ((le, ge, re, lo, nc), rc, (nx, nn, nk, nr), (wa, si, fh, lh), sc) (Exists.intro q (Exists.intro (nk (nI e).toNatClampNeg) (Exists.intro h (And.intro hq (And.intro hc (And.intro rfl (And.intro rfl (?_)))))))))))))
    refine And.intro i1 ?_
    refine (And.intro (And.intro rfl (And.intro rfl (And.intro rfl (And.intro (by decide) (by decide))))) ?_)
    refine Exists.intro ((tb, tl), pa, (rk, mr, fr, bf, un), (kd, sz, mb, co), (wh, hd, gs), ((le, ge, re, lo, nc), rc, (nx, nn, nk, nr), (wa, si, fh, lh), sc), sp, false, wr) (Exists.intro R (Exists.intro L (Exists.intro (fun i => ph un i h 10) (Exists.intro _ (Exists.intro _ (And.intro hg.1 (And.intro hg.2 (And.intro rfl (And.intro rfl (?_))))))))))
    exact zz_e0 hk2
  · skip
    refine ⟨Nat.le_of_ble_eq_true rfl, And.intro i1 ?_⟩
    refine (And.intro (And.intro rfl (And.intro rfl (And.intro rfl (And.intro (by decide) (by decide))))) ?_)
    refine Exists.intro true (Exists.intro [.ref 1, .ref 3, .ref 4, .ref 10, .ref 15, .ref 32, .ref 18, .int wr] (Exists.intro ((tb, tl), pa, (rk, mr, fr, bf, un), (kd, sz, mb, co), (wh, hd, gs)) (Exists.intro sp (Exists.intro R (Exists.intro ((le, ge, re, lo, nc), rc, (nx, nn, nk, nr), (wa, si, fh, lh), sc) (Exists.intro q (Exists.intro (nk (nI e).toNatClampNeg) (Exists.intro h (And.intro hq (And.intro hc (And.intro rfl (And.intro rfl (?_)))))))))))))
    refine And.intro i1 ?_
    refine (And.intro (And.intro rfl (And.intro rfl (And.intro rfl (And.intro (by decide) (by decide))))) ?_)
    refine Exists.intro ((tb, tl), pa, (rk, mr, fr, bf, un), (kd, sz, mb, co), (wh, hd, gs), ((le, ge, re, lo, nc), rc, (nx, nn, nk, nr), (wa, si, fh, lh), sc), sp, true, wr) (Exists.intro R (Exists.intro L (Exists.intro (fun i => ph un i h 10) (Exists.intro _ (Exists.intro _ (And.intro hg.1 (And.intro hg.2 (And.intro rfl (And.intro rfl (?_))))))))))
    exact zz_e0 hk2
theorem recv_Cr_countForNeed : ∀ As ws k x, pt_Cr_countForNeed As ws k x → ∃ q As' fs, As = .ref q :: As' ∧ ws[q]? = some (.inr (0, fs)) := by
  rintro As ws k x ⟨s, R, L, h, e, hg, hq, he, rfl, rfl, hk⟩
  exact ⟨_, _, _, rfl, rfl⟩
def pt_Cr_firstUnmetNeed : zz_PT := fun As ws k _ => ∃ (s : qC) (R : List va_E) (L : List Nat) (h : Int32) (j m : Nat), gk s.2.2.2.2.1.1 s.2.2.2.2.1.2.2 L ∧ (∃ q, q ≤ 10 ∧ s.2.2.2.2.2.1.2.2.2.2 = nI q) ∧ j < 10 ∧ m ≤ 6 ∧ s.2.2.2.2.2.1.1.2.2.2.2 j = nI m ∧ As = [.ref 0, .int (nI j), .int h] ∧ ws = gC s ++ R ∧ ∀ hd : qA, k (some (.int (gr (fN (nU s.2.2.1 s.2.2.2.2.2.1 L h j) m)))) (gC (s.1, s.2.1, s.2.2.1, s.2.2.2.1, (s.2.2.2.2.1.1, hd, s.2.2.2.2.1.2.2), s.2.2.2.2.2) ++ R)
set_option maxHeartbeats 4000000 in
set_option maxRecDepth 100000 in
theorem m_Cr_firstUnmetNeed (l : Launch) : zz_M zz_CL l y_Cr_firstUnmetNeed (Cond.code y_Cr_firstUnmetNeed c_Cr_firstUnmetNeed 7 (some .int) :: zz_big) (zz_rm 4 89 1 6) (3, false, 0, 0, pt_Cr_firstUnmetNeed) := by
  refine zz_M_of (HOST := "CrewRules") (L := [(0, 190, (2, false, 0, 0, pt_Gr_noteSkills)), (1, 232, (2, false, 0, 0, pt_Rb_needAt)), (0, 235, (3, false, 0, 0, pt_Cr_countForNeed))]) (sw := sw_Cr_firstUnmetNeed) (pg := pg_Cr_firstUnmetNeed) (th := th_Cr_firstUnmetNeed) (ini := false) (by decide +kernel) zz_static (fun h => nomatch h) (by decide) (by decide) ok_Cr_firstUnmetNeed (zz_cons (zz_ev_V (m_Gr_noteSkills l) yw_Gr_noteSkills yv_Gr_noteSkills lk_Cr_190 ⟨rfl, rfl, by decide, by decide⟩ (ci := 5) rfl recv_Gr_noteSkills) (zz_cons (zz_ev_S (m_Rb_needAt l) yw_Rb_needAt ys_Rb_needAt lk_Cr_232 ⟨rfl, rfl, by decide, by decide⟩) (zz_cons (zz_ev_V (m_Cr_countForNeed l) yw_Cr_countForNeed yv_Cr_countForNeed lk_Cr_235 ⟨rfl, rfl, by decide, by decide⟩ (ci := 0) rfl recv_Cr_countForNeed) zz_nil))) (fun pc E h => (nomatch h)) (zz_VC1 100 10 [true, true, true, true, false, false, false] rfl ?_)
  rintro As ws k x ⟨⟨⟨tb, tl⟩, pa, ⟨rk, mr, fr, bf, un⟩, ⟨kd, sz, mb, co⟩, ⟨wh, hd, gs⟩, ⟨⟨le, ge, re, lo, nc⟩, rc, ⟨nx, nn, nk, nr⟩, ⟨wa, si, fh, lh⟩, sc⟩, sp, fl, wr⟩, R, L, h, j, m, hg, hq, hj, hm, hm2, rfl, rfl, hk⟩
  dsimp only at hg hq hm2 hk
  have e1 : (nI j).toNatClampNeg = j := nI_clamp (by omega)
  have i1 := zn_in hj (show 10 < 2 ^ 31 by decide)
  cases fl
  · skip
    refine ⟨Nat.le_of_ble_eq_true rfl, fun z ls st ws nc1 ns => ∃ (i : Nat) (h2 : qA), i ≤ m ∧ z = m - i ∧ (∀ (j p : Nat), L[j]? = some p → h2 j = ph un p h 10) ∧ fN (nU (rk, mr, fr, bf, un) ((le, ge, re, lo, nc), rc, (nx, nn, nk, nr), (wa, si, fh, lh), sc) L h j) i = none ∧ ls = [some (.ref 0), some (.int (nI j)), some (.int h), some (.int (nI i)), none, none, none] ∧ st = [] ∧ ws = gC ((tb, tl), pa, (rk, mr, fr, bf, un), (kd, sz, mb, co), (wh, h2, gs), ((le, ge, re, lo, nc), rc, (nx, nn, nk, nr), (wa, si, fh, lh), sc), sp, false, wr) ++ R ∧ nc1 = 0 ∧ ns = 0, ?_, ?_⟩
    · rintro z ls st ws nc1 ns ⟨i, h2, hi, rfl, hg2, hf, rfl, rfl, rfl, rfl, rfl⟩
      refine And.intro i1 ?_
      refine And.intro (fun (c1 : nc (nI j).toNatClampNeg ≤ nI i) => ?_) (fun (c1 : ¬ nc (nI j).toNatClampNeg ≤ nI i) => ?_)
      · rw [e1, hm2] at c1
        have : i = m := by
          have := (nI_leI (by omega) (by omega)).mp c1
          omega
        subst this
        have hk := hk h2
        rw [hf] at hk
        exact zz_e0 hk
      · rw [e1, hm2] at c1
        have hi2 : i < m := Nat.lt_of_not_le (fun z : m ≤ i => c1 (nI_le z (by omega)))
        have e2 : (nI (6 * j + i)).toNatClampNeg = 6 * j + i := nI_clamp (by omega)
        have i2 := zn_in (show 6 * j + i < 60 by omega) (show 60 < 2 ^ 31 by decide)
        have stay : nU (rk, mr, fr, bf, un) ((le, ge, re, lo, nc), rc, (nx, nn, nk, nr), (wa, si, fh, lh), sc) L h j i = false → fN (nU (rk, mr, fr, bf, un) ((le, ge, re, lo, nc), rc, (nx, nn, nk, nr), (wa, si, fh, lh), sc) L h j) (i + 1) = none := fun z => by
          unfold fN; rw [hf, z]; rfl
        have give : nU (rk, mr, fr, bf, un) ((le, ge, re, lo, nc), rc, (nx, nn, nk, nr), (wa, si, fh, lh), sc) L h j i = true → k (some (.int (nI i))) (gC ((tb, tl), pa, (rk, mr, fr, bf, un), (kd, sz, mb, co), (wh, h2, gs), ((le, ge, re, lo, nc), rc, (nx, nn, nk, nr), (wa, si, fh, lh), sc), sp, false, wr) ++ R) := fun z => by
          have := fN_mono (f := nU (rk, mr, fr, bf, un) ((le, ge, re, lo, nc), rc, (nx, nn, nk, nr), (wa, si, fh, lh), sc) L h j) (i := i) (j := i + 1) (by unfold fN; rw [hf, z]; rfl) m (by omega)
          have hk := hk h2
          rw [this] at hk
          exact hk
        refine (And.intro (And.intro rfl (And.intro rfl (And.intro rfl (And.intro (by decide) (by decide))))) ?_)
        refine Exists.intro j (Exists.intro i (And.intro rfl ?_))
        refine (And.intro (And.intro rfl (And.intro rfl (And.intro rfl (And.intro (by decide) (by decide))))) ?_)
        refine Exists.intro ((tb, tl), pa, (rk, mr, fr, bf, un), (kd, sz, mb, co), (wh, h2, gs), ((le, ge, re, lo, nc), rc, (nx, nn, nk, nr), (wa, si, fh, lh), sc), sp, false, wr) (Exists.intro R (Exists.intro L (Exists.intro h (Exists.intro (6 * j + i) (And.intro ⟨hg, hg2⟩ (And.intro hq (And.intro (by omega) (And.intro rfl (And.intro rfl (?_))))))))))
        refine And.intro i2 ?_
        refine And.intro (fun (c2 : nx (nI (6 * j + i)).toNatClampNeg = 0) => ?_) (fun (c2 : ¬ nx (nI (6 * j + i)).toNatClampNeg = 0) => And.intro i2 ?_)
        · rw [e2] at c2
          refine And.intro (fun (z : ¬ (0 : Int32) = 0) => absurd rfl z) (fun _ => ?_)
          refine And.intro i2 ?_
          refine And.intro (fun (c3 : nn (nI (6 * j + i)).toNatClampNeg ≤ nI (nC (rk, mr, fr, bf, un) ((le, ge, re, lo, nc), rc, (nx, nn, nk, nr), (wa, si, fh, lh), sc) L h (6 * j + i))) => ?_) (fun (c3 : ¬ nn (nI (6 * j + i)).toNatClampNeg ≤ nI (nC (rk, mr, fr, bf, un) ((le, ge, re, lo, nc), rc, (nx, nn, nk, nr), (wa, si, fh, lh), sc) L h (6 * j + i))) => ?_)
          · rw [e2] at c3
            exact Exists.intro (m - (i + 1)) (And.intro (by show m - (i + 1) < m - i; omega) ⟨i + 1, h2, hi2, rfl, hg2, stay (by unfold nU; dsimp only; rw [decide_eq_true c2, decide_eq_false (p := nI (nC (rk, mr, fr, bf, un) ((le, ge, re, lo, nc), rc, (nx, nn, nk, nr), (wa, si, fh, lh), sc) L h (6 * j + i)) < nn (6 * j + i)) (fun z => by rw [zn_le] at c3; rw [zn_lt] at z; omega)]; rfl), by rw [← nI_1]; rfl, rfl, rfl, rfl, rfl⟩)
          · rw [e2] at c3
            exact zz_e0 (give (by unfold nU; dsimp only; rw [decide_eq_true (p := nI (nC (rk, mr, fr, bf, un) ((le, ge, re, lo, nc), rc, (nx, nn, nk, nr), (wa, si, fh, lh), sc) L h (6 * j + i)) < nn (6 * j + i)) (by rw [zn_lt]; rw [zn_le] at c3; omega), Bool.or_true]))
        · rw [e2] at c2
          refine And.intro (fun (c4 : nI (nC (rk, mr, fr, bf, un) ((le, ge, re, lo, nc), rc, (nx, nn, nk, nr), (wa, si, fh, lh), sc) L h (6 * j + i)) ≤ nn (nI (6 * j + i)).toNatClampNeg) => ?_) (fun (c4 : ¬ nI (nC (rk, mr, fr, bf, un) ((le, ge, re, lo, nc), rc, (nx, nn, nk, nr), (wa, si, fh, lh), sc) L h (6 * j + i)) ≤ nn (nI (6 * j + i)).toNatClampNeg) => ?_)
          · rw [e2] at c4
            refine And.intro (fun (z : ¬ (0 : Int32) = 0) => absurd rfl z) (fun _ => ?_)
            refine And.intro i2 ?_
            refine And.intro (fun (c3 : nn (nI (6 * j + i)).toNatClampNeg ≤ nI (nC (rk, mr, fr, bf, un) ((le, ge, re, lo, nc), rc, (nx, nn, nk, nr), (wa, si, fh, lh), sc) L h (6 * j + i))) => ?_) (fun (c3 : ¬ nn (nI (6 * j + i)).toNatClampNeg ≤ nI (nC (rk, mr, fr, bf, un) ((le, ge, re, lo, nc), rc, (nx, nn, nk, nr), (wa, si, fh, lh), sc) L h (6 * j + i))) => ?_)
            · rw [e2] at c3
              exact Exists.intro (m - (i + 1)) (And.intro (by show m - (i + 1) < m - i; omega) ⟨i + 1, h2, hi2, rfl, hg2, stay (by unfold nU; dsimp only; rw [decide_eq_false (p := nn (6 * j + i) < nI (nC (rk, mr, fr, bf, un) ((le, ge, re, lo, nc), rc, (nx, nn, nk, nr), (wa, si, fh, lh), sc) L h (6 * j + i))) (fun z => by rw [zn_le] at c4; rw [zn_lt] at z; omega), Bool.and_false, decide_eq_false (p := nI (nC (rk, mr, fr, bf, un) ((le, ge, re, lo, nc), rc, (nx, nn, nk, nr), (wa, si, fh, lh), sc) L h (6 * j + i)) < nn (6 * j + i)) (fun z => by rw [zn_le] at c3; rw [zn_lt] at z; omega)]; rfl), by rw [← nI_1]; rfl, rfl, rfl, rfl, rfl⟩)
            · rw [e2] at c3
              exact zz_e0 (give (by unfold nU; dsimp only; rw [decide_eq_true (p := nI (nC (rk, mr, fr, bf, un) ((le, ge, re, lo, nc), rc, (nx, nn, nk, nr), (wa, si, fh, lh), sc) L h (6 * j + i)) < nn (6 * j + i)) (by rw [zn_lt]; rw [zn_le] at c3; omega), Bool.or_true]))
          · rw [e2] at c4
            refine And.intro (fun _ => ?_) (fun (z : (1 : Int32) = 0) => absurd z (by decide))
            exact zz_e0 (give (by unfold nU; dsimp only; rw [decide_eq_false c2, decide_eq_true (p := nn (6 * j + i) < nI (nC (rk, mr, fr, bf, un) ((le, ge, re, lo, nc), rc, (nx, nn, nk, nr), (wa, si, fh, lh), sc) L h (6 * j + i))) (by rw [zn_lt]; rw [zn_le] at c4; omega)]; rfl))
    · refine (And.intro (And.intro rfl (And.intro rfl (And.intro rfl (And.intro (by decide) (by decide))))) ?_)
      refine Exists.intro ((tb, tl), pa, (rk, mr, fr, bf, un), (kd, sz, mb, co), (wh, hd, gs), ((le, ge, re, lo, nc), rc, (nx, nn, nk, nr), (wa, si, fh, lh), sc), sp, false, wr) (Exists.intro R (Exists.intro L (Exists.intro h (And.intro hg (And.intro rfl (And.intro rfl (?_)))))))
      intro h2 hg2
      exact Exists.intro m (And.intro trivial ⟨0, h2, Nat.zero_le _, rfl, hg2, rfl, rfl, rfl, rfl, rfl, rfl⟩)
  · skip
    refine ⟨Nat.le_of_ble_eq_true rfl, fun z ls st ws nc1 ns => ∃ (i : Nat) (h2 : qA), i ≤ m ∧ z = m - i ∧ (∀ (j p : Nat), L[j]? = some p → h2 j = ph un p h 10) ∧ fN (nU (rk, mr, fr, bf, un) ((le, ge, re, lo, nc), rc, (nx, nn, nk, nr), (wa, si, fh, lh), sc) L h j) i = none ∧ ls = [some (.ref 0), some (.int (nI j)), some (.int h), some (.int (nI i)), none, none, none] ∧ st = [] ∧ ws = gC ((tb, tl), pa, (rk, mr, fr, bf, un), (kd, sz, mb, co), (wh, h2, gs), ((le, ge, re, lo, nc), rc, (nx, nn, nk, nr), (wa, si, fh, lh), sc), sp, true, wr) ++ R ∧ nc1 = 0 ∧ ns = 0, ?_, ?_⟩
    · rintro z ls st ws nc1 ns ⟨i, h2, hi, rfl, hg2, hf, rfl, rfl, rfl, rfl, rfl⟩
      refine And.intro i1 ?_
      refine And.intro (fun (c1 : nc (nI j).toNatClampNeg ≤ nI i) => ?_) (fun (c1 : ¬ nc (nI j).toNatClampNeg ≤ nI i) => ?_)
      · rw [e1, hm2] at c1
        have : i = m := by
          have := (nI_leI (by omega) (by omega)).mp c1
          omega
        subst this
        have hk := hk h2
        rw [hf] at hk
        exact zz_e0 hk
      · rw [e1, hm2] at c1
        have hi2 : i < m := Nat.lt_of_not_le (fun z : m ≤ i => c1 (nI_le z (by omega)))
        have e2 : (nI (6 * j + i)).toNatClampNeg = 6 * j + i := nI_clamp (by omega)
        have i2 := zn_in (show 6 * j + i < 60 by omega) (show 60 < 2 ^ 31 by decide)
        have stay : nU (rk, mr, fr, bf, un) ((le, ge, re, lo, nc), rc, (nx, nn, nk, nr), (wa, si, fh, lh), sc) L h j i = false → fN (nU (rk, mr, fr, bf, un) ((le, ge, re, lo, nc), rc, (nx, nn, nk, nr), (wa, si, fh, lh), sc) L h j) (i + 1) = none := fun z => by
          unfold fN; rw [hf, z]; rfl
        have give : nU (rk, mr, fr, bf, un) ((le, ge, re, lo, nc), rc, (nx, nn, nk, nr), (wa, si, fh, lh), sc) L h j i = true → k (some (.int (nI i))) (gC ((tb, tl), pa, (rk, mr, fr, bf, un), (kd, sz, mb, co), (wh, h2, gs), ((le, ge, re, lo, nc), rc, (nx, nn, nk, nr), (wa, si, fh, lh), sc), sp, true, wr) ++ R) := fun z => by
          have := fN_mono (f := nU (rk, mr, fr, bf, un) ((le, ge, re, lo, nc), rc, (nx, nn, nk, nr), (wa, si, fh, lh), sc) L h j) (i := i) (j := i + 1) (by unfold fN; rw [hf, z]; rfl) m (by omega)
          have hk := hk h2
          rw [this] at hk
          exact hk
        refine (And.intro (And.intro rfl (And.intro rfl (And.intro rfl (And.intro (by decide) (by decide))))) ?_)
        refine Exists.intro j (Exists.intro i (And.intro rfl ?_))
        refine (And.intro (And.intro rfl (And.intro rfl (And.intro rfl (And.intro (by decide) (by decide))))) ?_)
        refine Exists.intro ((tb, tl), pa, (rk, mr, fr, bf, un), (kd, sz, mb, co), (wh, h2, gs), ((le, ge, re, lo, nc), rc, (nx, nn, nk, nr), (wa, si, fh, lh), sc), sp, true, wr) (Exists.intro R (Exists.intro L (Exists.intro h (Exists.intro (6 * j + i) (And.intro ⟨hg, hg2⟩ (And.intro hq (And.intro (by omega) (And.intro rfl (And.intro rfl (?_))))))))))
        refine And.intro i2 ?_
        refine And.intro (fun (c2 : nx (nI (6 * j + i)).toNatClampNeg = 0) => ?_) (fun (c2 : ¬ nx (nI (6 * j + i)).toNatClampNeg = 0) => And.intro i2 ?_)
        · rw [e2] at c2
          refine And.intro (fun (z : ¬ (0 : Int32) = 0) => absurd rfl z) (fun _ => ?_)
          refine And.intro i2 ?_
          refine And.intro (fun (c3 : nn (nI (6 * j + i)).toNatClampNeg ≤ nI (nC (rk, mr, fr, bf, un) ((le, ge, re, lo, nc), rc, (nx, nn, nk, nr), (wa, si, fh, lh), sc) L h (6 * j + i))) => ?_) (fun (c3 : ¬ nn (nI (6 * j + i)).toNatClampNeg ≤ nI (nC (rk, mr, fr, bf, un) ((le, ge, re, lo, nc), rc, (nx, nn, nk, nr), (wa, si, fh, lh), sc) L h (6 * j + i))) => ?_)
          · rw [e2] at c3
            exact Exists.intro (m - (i + 1)) (And.intro (by show m - (i + 1) < m - i; omega) ⟨i + 1, h2, hi2, rfl, hg2, stay (by unfold nU; dsimp only; rw [decide_eq_true c2, decide_eq_false (p := nI (nC (rk, mr, fr, bf, un) ((le, ge, re, lo, nc), rc, (nx, nn, nk, nr), (wa, si, fh, lh), sc) L h (6 * j + i)) < nn (6 * j + i)) (fun z => by rw [zn_le] at c3; rw [zn_lt] at z; omega)]; rfl), by rw [← nI_1]; rfl, rfl, rfl, rfl, rfl⟩)
          · rw [e2] at c3
            exact zz_e0 (give (by unfold nU; dsimp only; rw [decide_eq_true (p := nI (nC (rk, mr, fr, bf, un) ((le, ge, re, lo, nc), rc, (nx, nn, nk, nr), (wa, si, fh, lh), sc) L h (6 * j + i)) < nn (6 * j + i)) (by rw [zn_lt]; rw [zn_le] at c3; omega), Bool.or_true]))
        · rw [e2] at c2
          refine And.intro (fun (c4 : nI (nC (rk, mr, fr, bf, un) ((le, ge, re, lo, nc), rc, (nx, nn, nk, nr), (wa, si, fh, lh), sc) L h (6 * j + i)) ≤ nn (nI (6 * j + i)).toNatClampNeg) => ?_) (fun (c4 : ¬ nI (nC (rk, mr, fr, bf, un) ((le, ge, re, lo, nc), rc, (nx, nn, nk, nr), (wa, si, fh, lh), sc) L h (6 * j + i)) ≤ nn (nI (6 * j + i)).toNatClampNeg) => ?_)
          · rw [e2] at c4
            refine And.intro (fun (z : ¬ (0 : Int32) = 0) => absurd rfl z) (fun _ => ?_)
            refine And.intro i2 ?_
            refine And.intro (fun (c3 : nn (nI (6 * j + i)).toNatClampNeg ≤ nI (nC (rk, mr, fr, bf, un) ((le, ge, re, lo, nc), rc, (nx, nn, nk, nr), (wa, si, fh, lh), sc) L h (6 * j + i))) => ?_) (fun (c3 : ¬ nn (nI (6 * j + i)).toNatClampNeg ≤ nI (nC (rk, mr, fr, bf, un) ((le, ge, re, lo, nc), rc, (nx, nn, nk, nr), (wa, si, fh, lh), sc) L h (6 * j + i))) => ?_)
            · rw [e2] at c3
              exact Exists.intro (m - (i + 1)) (And.intro (by show m - (i + 1) < m - i; omega) ⟨i + 1, h2, hi2, rfl, hg2, stay (by unfold nU; dsimp only; rw [decide_eq_false (p := nn (6 * j + i) < nI (nC (rk, mr, fr, bf, un) ((le, ge, re, lo, nc), rc, (nx, nn, nk, nr), (wa, si, fh, lh), sc) L h (6 * j + i))) (fun z => by rw [zn_le] at c4; rw [zn_lt] at z; omega), Bool.and_false, decide_eq_false (p := nI (nC (rk, mr, fr, bf, un) ((le, ge, re, lo, nc), rc, (nx, nn, nk, nr), (wa, si, fh, lh), sc) L h (6 * j + i)) < nn (6 * j + i)) (fun z => by rw [zn_le] at c3; rw [zn_lt] at z; omega)]; rfl), by rw [← nI_1]; rfl, rfl, rfl, rfl, rfl⟩)
            · rw [e2] at c3
              exact zz_e0 (give (by unfold nU; dsimp only; rw [decide_eq_true (p := nI (nC (rk, mr, fr, bf, un) ((le, ge, re, lo, nc), rc, (nx, nn, nk, nr), (wa, si, fh, lh), sc) L h (6 * j + i)) < nn (6 * j + i)) (by rw [zn_lt]; rw [zn_le] at c3; omega), Bool.or_true]))
          · rw [e2] at c4
            refine And.intro (fun _ => ?_) (fun (z : (1 : Int32) = 0) => absurd z (by decide))
            exact zz_e0 (give (by unfold nU; dsimp only; rw [decide_eq_false c2, decide_eq_true (p := nn (6 * j + i) < nI (nC (rk, mr, fr, bf, un) ((le, ge, re, lo, nc), rc, (nx, nn, nk, nr), (wa, si, fh, lh), sc) L h (6 * j + i))) (by rw [zn_lt]; rw [zn_le] at c4; omega)]; rfl))
    · refine (And.intro (And.intro rfl (And.intro rfl (And.intro rfl (And.intro (by decide) (by decide))))) ?_)
      refine Exists.intro ((tb, tl), pa, (rk, mr, fr, bf, un), (kd, sz, mb, co), (wh, hd, gs), ((le, ge, re, lo, nc), rc, (nx, nn, nk, nr), (wa, si, fh, lh), sc), sp, true, wr) (Exists.intro R (Exists.intro L (Exists.intro h (And.intro hg (And.intro rfl (And.intro rfl (?_)))))))
      intro h2 hg2
      exact Exists.intro m (And.intro trivial ⟨0, h2, Nat.zero_le _, rfl, hg2, rfl, rfl, rfl, rfl, rfl, rfl⟩)
theorem recv_Cr_firstUnmetNeed : ∀ As ws k x, pt_Cr_firstUnmetNeed As ws k x → ∃ q As' fs, As = .ref q :: As' ∧ ws[q]? = some (.inr (0, fs)) := by
  rintro As ws k x ⟨s, R, L, h, j, m, hg, hq, hj, hm, hm2, rfl, rfl, hk⟩
  exact ⟨_, _, _, rfl, rfl⟩
def pt_Cr_isBeyondGroup : zz_PT := fun As ws k _ => ∃ (s : qC) (R : List va_E) (L : List Nat) (h : Int32) (j m : Nat), gH s L h ∧ (∃ q, q ≤ 10 ∧ s.2.2.2.2.2.1.2.2.2.2 = nI q) ∧ j < 10 ∧ m ≤ 6 ∧ s.2.2.2.2.2.1.1.2.2.2.2 j = nI m ∧ As = [.ref 0, .int (nI j), .int h] ∧ ws = gC s ++ R ∧ k (some (.int (zb (nB s.2.2.1 s.2.2.2.2.2.1 L h j)))) ws
set_option maxHeartbeats 4000000 in
set_option maxRecDepth 100000 in
theorem m_Cr_isBeyondGroup (l : Launch) : zz_M zz_CL l y_Cr_isBeyondGroup (Cond.code y_Cr_isBeyondGroup c_Cr_isBeyondGroup 5 (some .boolean) :: zz_big) (zz_rm 4 89 1 6) (3, false, 0, 0, pt_Cr_isBeyondGroup) := by
  refine zz_M_of (HOST := "CrewRules") (L := [(0, 245, (1, false, 0, 0, pt_Gr_countWithSomeSkill)), (1, 232, (2, false, 0, 0, pt_Rb_needAt)), (0, 235, (3, false, 0, 0, pt_Cr_countForNeed))]) (sw := sw_Cr_isBeyondGroup) (pg := pg_Cr_isBeyondGroup) (th := th_Cr_isBeyondGroup) (ini := false) (by decide +kernel) zz_static (fun h => nomatch h) (by decide) (by decide) ok_Cr_isBeyondGroup (zz_cons (zz_ev_V (m_Gr_countWithSomeSkill l) yw_Gr_countWithSomeSkill yv_Gr_countWithSomeSkill lk_Cr_245 ⟨rfl, rfl, by decide, by decide⟩ (ci := 5) rfl recv_Gr_countWithSomeSkill) (zz_cons (zz_ev_S (m_Rb_needAt l) yw_Rb_needAt ys_Rb_needAt lk_Cr_232 ⟨rfl, rfl, by decide, by decide⟩) (zz_cons (zz_ev_V (m_Cr_countForNeed l) yw_Cr_countForNeed yv_Cr_countForNeed lk_Cr_235 ⟨rfl, rfl, by decide, by decide⟩ (ci := 0) rfl recv_Cr_countForNeed) zz_nil))) (fun pc E h => (nomatch h)) (zz_VC1 100 23 [true, true, true, true, false] rfl ?_)
  rintro As ws k x ⟨⟨⟨tb, tl⟩, pa, ⟨rk, mr, fr, bf, un⟩, ⟨kd, sz, mb, co⟩, ⟨wh, hd, gs⟩, ⟨⟨le, ge, re, lo, nc⟩, rc, ⟨nx, nn, nk, nr⟩, ⟨wa, si, fh, lh⟩, sc⟩, sp, fl, wr⟩, R, L, h, j, m, hg, hq, hj, hm, hm2, rfl, rfl, hk⟩
  dsimp only at hq hm2 hk
  have e1 : (nI j).toNatClampNeg = j := nI_clamp (by omega)
  have i1 := zn_in hj (show 10 < 2 ^ 31 by decide)
  unfold nB at hk
  dsimp only at hk
  rw [hm2, nI_clamp (show m < 2 ^ 31 by omega)] at hk
  cases fl
  · skip
    refine ⟨Nat.le_of_ble_eq_true rfl, fun z ls st ws nc1 ns => ∃ (i : Nat), i ≤ m ∧ z = m - i ∧ decide (nI (L.countP (fun i => !decide (ph un i h 10 = 0))) < le j) = false ∧ aN (fun i => decide (nI (nC (rk, mr, fr, bf, un) ((le, ge, re, lo, nc), rc, (nx, nn, nk, nr), (wa, si, fh, lh), sc) L h (6 * j + i)) < nn (6 * j + i))) i = false ∧ ls = [some (.ref 0), some (.int (nI j)), some (.int h), some (.int (nI i)), none] ∧ st = [] ∧ ws = gC ((tb, tl), pa, (rk, mr, fr, bf, un), (kd, sz, mb, co), (wh, hd, gs), ((le, ge, re, lo, nc), rc, (nx, nn, nk, nr), (wa, si, fh, lh), sc), sp, false, wr) ++ R ∧ nc1 = 0 ∧ ns = 0, ?_, ?_⟩
    · rintro z ls st ws nc1 ns ⟨i, hi, rfl, hl, hf, rfl, rfl, rfl, rfl, rfl⟩
      refine And.intro i1 ?_
      rw [hl, Bool.false_or] at hk
      refine And.intro (fun (c1 : nc (nI j).toNatClampNeg ≤ nI i) => ?_) (fun (c1 : ¬ nc (nI j).toNatClampNeg ≤ nI i) => ?_)
      · rw [e1, hm2] at c1
        have : i = m := by
          have := (nI_leI (by omega) (by omega)).mp c1
          omega
        subst this
        rw [hf] at hk
        exact zz_eb (b := false) hk
      · rw [e1, hm2] at c1
        have hi2 : i < m := Nat.lt_of_not_le (fun z : m ≤ i => c1 (nI_le z (by omega)))
        have e2 : (nI (6 * j + i)).toNatClampNeg = 6 * j + i := nI_clamp (by omega)
        have i2 := zn_in (show 6 * j + i < 60 by omega) (show 60 < 2 ^ 31 by decide)
        have nxt : aN (fun i => decide (nI (nC (rk, mr, fr, bf, un) ((le, ge, re, lo, nc), rc, (nx, nn, nk, nr), (wa, si, fh, lh), sc) L h (6 * j + i)) < nn (6 * j + i))) (i + 1) = decide (nI (nC (rk, mr, fr, bf, un) ((le, ge, re, lo, nc), rc, (nx, nn, nk, nr), (wa, si, fh, lh), sc) L h (6 * j + i)) < nn (6 * j + i)) := by
          show (aN (fun i => decide (nI (nC (rk, mr, fr, bf, un) ((le, ge, re, lo, nc), rc, (nx, nn, nk, nr), (wa, si, fh, lh), sc) L h (6 * j + i)) < nn (6 * j + i))) i || _) = _
          rw [hf]; rfl
        refine (And.intro (And.intro rfl (And.intro rfl (And.intro rfl (And.intro (by decide) (by decide))))) ?_)
        refine Exists.intro j (Exists.intro i (And.intro rfl ?_))
        refine And.intro i2 ?_
        refine (And.intro (And.intro rfl (And.intro rfl (And.intro rfl (And.intro (by decide) (by decide))))) ?_)
        refine Exists.intro ((tb, tl), pa, (rk, mr, fr, bf, un), (kd, sz, mb, co), (wh, hd, gs), ((le, ge, re, lo, nc), rc, (nx, nn, nk, nr), (wa, si, fh, lh), sc), sp, false, wr) (Exists.intro R (Exists.intro L (Exists.intro h (Exists.intro (6 * j + i) (And.intro hg (And.intro hq (And.intro (by omega) (And.intro rfl (And.intro rfl (?_))))))))))
        refine And.intro (fun (c2 : nn (nI (6 * j + i)).toNatClampNeg ≤ nI (nC (rk, mr, fr, bf, un) ((le, ge, re, lo, nc), rc, (nx, nn, nk, nr), (wa, si, fh, lh), sc) L h (6 * j + i))) => ?_) (fun (c2 : ¬ nn (nI (6 * j + i)).toNatClampNeg ≤ nI (nC (rk, mr, fr, bf, un) ((le, ge, re, lo, nc), rc, (nx, nn, nk, nr), (wa, si, fh, lh), sc) L h (6 * j + i))) => ?_)
        · rw [e2] at c2
          refine Exists.intro (m - (i + 1)) (And.intro (by show m - (i + 1) < m - i; omega) ⟨i + 1, hi2, rfl, hl, ?_, by rw [← nI_1]; rfl, rfl, rfl, rfl, rfl⟩)
          rw [nxt]
          exact decide_eq_false (fun z => by rw [zn_le] at c2; rw [zn_lt] at z; omega)
        · rw [e2] at c2
          have := aN_mono (f := (fun i => decide (nI (nC (rk, mr, fr, bf, un) ((le, ge, re, lo, nc), rc, (nx, nn, nk, nr), (wa, si, fh, lh), sc) L h (6 * j + i)) < nn (6 * j + i)))) (j := i + 1) (by rw [nxt]; exact decide_eq_true (by rw [zn_lt]; rw [zn_le] at c2; omega)) m (by omega)
          rw [this] at hk
          exact zz_eb (b := true) hk
    · refine And.intro i1 ?_
      refine (And.intro (And.intro rfl (And.intro rfl (And.intro rfl (And.intro (by decide) (by decide))))) ?_)
      refine Exists.intro ((tb, tl), pa, (rk, mr, fr, bf, un), (kd, sz, mb, co), (wh, hd, gs), ((le, ge, re, lo, nc), rc, (nx, nn, nk, nr), (wa, si, fh, lh), sc), sp, false, wr) (Exists.intro R (Exists.intro L (Exists.intro (fun i => ph un i h 10) (And.intro hg.1 (And.intro hg.2 (And.intro rfl (And.intro rfl (?_))))))))
      refine And.intro (fun (c1 : le (nI j).toNatClampNeg ≤ nI (L.countP (fun i => !decide (ph un i h 10 = 0)))) => ?_) (fun (c1 : ¬ le (nI j).toNatClampNeg ≤ nI (L.countP (fun i => !decide (ph un i h 10 = 0)))) => ?_)
      · rw [e1] at c1
        exact Exists.intro m (And.intro trivial ⟨0, Nat.zero_le _, rfl, decide_eq_false (fun z => by rw [zn_le] at c1; rw [zn_lt] at z; omega), rfl, rfl, rfl, rfl, rfl, rfl⟩)
      · rw [e1] at c1
        rw [decide_eq_true (p := nI (L.countP (fun i => !decide (ph un i h 10 = 0))) < le j) (by rw [zn_lt]; rw [zn_le] at c1; omega), Bool.true_or] at hk
        exact zz_eb (b := true) hk
  · skip
    refine ⟨Nat.le_of_ble_eq_true rfl, fun z ls st ws nc1 ns => ∃ (i : Nat), i ≤ m ∧ z = m - i ∧ decide (nI (L.countP (fun i => !decide (ph un i h 10 = 0))) < le j) = false ∧ aN (fun i => decide (nI (nC (rk, mr, fr, bf, un) ((le, ge, re, lo, nc), rc, (nx, nn, nk, nr), (wa, si, fh, lh), sc) L h (6 * j + i)) < nn (6 * j + i))) i = false ∧ ls = [some (.ref 0), some (.int (nI j)), some (.int h), some (.int (nI i)), none] ∧ st = [] ∧ ws = gC ((tb, tl), pa, (rk, mr, fr, bf, un), (kd, sz, mb, co), (wh, hd, gs), ((le, ge, re, lo, nc), rc, (nx, nn, nk, nr), (wa, si, fh, lh), sc), sp, true, wr) ++ R ∧ nc1 = 0 ∧ ns = 0, ?_, ?_⟩
    · rintro z ls st ws nc1 ns ⟨i, hi, rfl, hl, hf, rfl, rfl, rfl, rfl, rfl⟩
      refine And.intro i1 ?_
      rw [hl, Bool.false_or] at hk
      refine And.intro (fun (c1 : nc (nI j).toNatClampNeg ≤ nI i) => ?_) (fun (c1 : ¬ nc (nI j).toNatClampNeg ≤ nI i) => ?_)
      · rw [e1, hm2] at c1
        have : i = m := by
          have := (nI_leI (by omega) (by omega)).mp c1
          omega
        subst this
        rw [hf] at hk
        exact zz_eb (b := false) hk
      · rw [e1, hm2] at c1
        have hi2 : i < m := Nat.lt_of_not_le (fun z : m ≤ i => c1 (nI_le z (by omega)))
        have e2 : (nI (6 * j + i)).toNatClampNeg = 6 * j + i := nI_clamp (by omega)
        have i2 := zn_in (show 6 * j + i < 60 by omega) (show 60 < 2 ^ 31 by decide)
        have nxt : aN (fun i => decide (nI (nC (rk, mr, fr, bf, un) ((le, ge, re, lo, nc), rc, (nx, nn, nk, nr), (wa, si, fh, lh), sc) L h (6 * j + i)) < nn (6 * j + i))) (i + 1) = decide (nI (nC (rk, mr, fr, bf, un) ((le, ge, re, lo, nc), rc, (nx, nn, nk, nr), (wa, si, fh, lh), sc) L h (6 * j + i)) < nn (6 * j + i)) := by
          show (aN (fun i => decide (nI (nC (rk, mr, fr, bf, un) ((le, ge, re, lo, nc), rc, (nx, nn, nk, nr), (wa, si, fh, lh), sc) L h (6 * j + i)) < nn (6 * j + i))) i || _) = _
          rw [hf]; rfl
        refine (And.intro (And.intro rfl (And.intro rfl (And.intro rfl (And.intro (by decide) (by decide))))) ?_)
        refine Exists.intro j (Exists.intro i (And.intro rfl ?_))
        refine And.intro i2 ?_
        refine (And.intro (And.intro rfl (And.intro rfl (And.intro rfl (And.intro (by decide) (by decide))))) ?_)
        refine Exists.intro ((tb, tl), pa, (rk, mr, fr, bf, un), (kd, sz, mb, co), (wh, hd, gs), ((le, ge, re, lo, nc), rc, (nx, nn, nk, nr), (wa, si, fh, lh), sc), sp, true, wr) (Exists.intro R (Exists.intro L (Exists.intro h (Exists.intro (6 * j + i) (And.intro hg (And.intro hq (And.intro (by omega) (And.intro rfl (And.intro rfl (?_))))))))))
        refine And.intro (fun (c2 : nn (nI (6 * j + i)).toNatClampNeg ≤ nI (nC (rk, mr, fr, bf, un) ((le, ge, re, lo, nc), rc, (nx, nn, nk, nr), (wa, si, fh, lh), sc) L h (6 * j + i))) => ?_) (fun (c2 : ¬ nn (nI (6 * j + i)).toNatClampNeg ≤ nI (nC (rk, mr, fr, bf, un) ((le, ge, re, lo, nc), rc, (nx, nn, nk, nr), (wa, si, fh, lh), sc) L h (6 * j + i))) => ?_)
        · rw [e2] at c2
          refine Exists.intro (m - (i + 1)) (And.intro (by show m - (i + 1) < m - i; omega) ⟨i + 1, hi2, rfl, hl, ?_, by rw [← nI_1]; rfl, rfl, rfl, rfl, rfl⟩)
          rw [nxt]
          exact decide_eq_false (fun z => by rw [zn_le] at c2; rw [zn_lt] at z; omega)
        · rw [e2] at c2
          have := aN_mono (f := (fun i => decide (nI (nC (rk, mr, fr, bf, un) ((le, ge, re, lo, nc), rc, (nx, nn, nk, nr), (wa, si, fh, lh), sc) L h (6 * j + i)) < nn (6 * j + i)))) (j := i + 1) (by rw [nxt]; exact decide_eq_true (by rw [zn_lt]; rw [zn_le] at c2; omega)) m (by omega)
          rw [this] at hk
          exact zz_eb (b := true) hk
    · refine And.intro i1 ?_
      refine (And.intro (And.intro rfl (And.intro rfl (And.intro rfl (And.intro (by decide) (by decide))))) ?_)
      refine Exists.intro ((tb, tl), pa, (rk, mr, fr, bf, un), (kd, sz, mb, co), (wh, hd, gs), ((le, ge, re, lo, nc), rc, (nx, nn, nk, nr), (wa, si, fh, lh), sc), sp, true, wr) (Exists.intro R (Exists.intro L (Exists.intro (fun i => ph un i h 10) (And.intro hg.1 (And.intro hg.2 (And.intro rfl (And.intro rfl (?_))))))))
      refine And.intro (fun (c1 : le (nI j).toNatClampNeg ≤ nI (L.countP (fun i => !decide (ph un i h 10 = 0)))) => ?_) (fun (c1 : ¬ le (nI j).toNatClampNeg ≤ nI (L.countP (fun i => !decide (ph un i h 10 = 0)))) => ?_)
      · rw [e1] at c1
        exact Exists.intro m (And.intro trivial ⟨0, Nat.zero_le _, rfl, decide_eq_false (fun z => by rw [zn_le] at c1; rw [zn_lt] at z; omega), rfl, rfl, rfl, rfl, rfl, rfl⟩)
      · rw [e1] at c1
        rw [decide_eq_true (p := nI (L.countP (fun i => !decide (ph un i h 10 = 0))) < le j) (by rw [zn_lt]; rw [zn_le] at c1; omega), Bool.true_or] at hk
        exact zz_eb (b := true) hk
theorem recv_Cr_isBeyondGroup : ∀ As ws k x, pt_Cr_isBeyondGroup As ws k x → ∃ q As' fs, As = .ref q :: As' ∧ ws[q]? = some (.inr (0, fs)) := by
  rintro As ws k x ⟨s, R, L, h, j, m, hg, hq, hj, hm, hm2, rfl, rfl, hk⟩
  exact ⟨_, _, _, rfl, rfl⟩
def oHaving (c k r h : Int32) : Nat := bif !iR 0 19 c || !iR 0 9 k then 1 else bif !iR 0 99999 h || !iR 0 9 r then 2 else 0
def aHaving (s : qC) (c j r h : Int32) : Int32 := nI ((sG s c).countP (gq (fun i => ph s.2.2.1.2.2.2.2 i h 10) s.2.2.1.1 s.2.2.1.2.1 (bAcc s.2.2.2.2.2.1 j h) r))
def pt_Cr_having : zz_PT := fun As ws k x => ∃ (s : qC) (R : List va_E) (c j r h : Int32), wfB s.2.2.2.2.2.1 ∧ As = [.ref 0, .int c, .int j, .int r, .int h] ∧ ws = gC s ++ R ∧ zo (oHaving c j r h) (x "java/lang/IllegalArgumentException" ws) (x "java/lang/IndexOutOfBoundsException" ws) False (∀ g : qG, k (some (.int (aHaving s c j r h))) (gC (uG s g) ++ R))
set_option maxHeartbeats 4000000 in
set_option maxRecDepth 100000 in
theorem m_Cr_having (l : Launch) (hl : l.stackTraces = false) : zz_M zz_CL l y_Cr_having (Cond.code y_Cr_having c_Cr_having 5 (some .int) :: zz_big) (zz_rm 7 109 1 6) (5, false, 0, 0, pt_Cr_having) := by
  refine zz_M_of (HOST := "CrewRules") (L := [(1, 128, (1, false, 0, 0, pt_Cr_requireCrew)), (1, 111, (1, false, 0, 0, pt_Cr_requireSkill)), (1, 114, (1, false, 0, 0, pt_Cr_requireHour)), (1, 99, (1, false, 0, 0, pt_Cr_requireRank)), (0, 162, (2, false, 0, 0, pt_Gr_gatherCrew)), (0, 190, (2, false, 0, 0, pt_Gr_noteSkills)), (0, 193, (3, false, 0, 0, pt_Rb_acceptedFor)), (0, 196, (3, false, 0, 0, pt_Gr_countSkilled))]) (sw := sw_Cr_having) (pg := pg_Cr_having) (th := th_Cr_having) (ini := false) (by decide +kernel) zz_static (fun h => nomatch h) (by decide) (by decide) ok_Cr_having (zz_cons (zz_ev_S (m_Cr_requireCrew l hl) yw_Cr_requireCrew ys_Cr_requireCrew lk_Cr_128 ⟨rfl, rfl, by decide, by decide⟩) (zz_cons (zz_ev_S (m_Cr_requireSkill l hl) yw_Cr_requireSkill ys_Cr_requireSkill lk_Cr_111 ⟨rfl, rfl, by decide, by decide⟩) (zz_cons (zz_ev_S (m_Cr_requireHour l hl) yw_Cr_requireHour ys_Cr_requireHour lk_Cr_114 ⟨rfl, rfl, by decide, by decide⟩) (zz_cons (zz_ev_S (m_Cr_requireRank l hl) yw_Cr_requireRank ys_Cr_requireRank lk_Cr_99 ⟨rfl, rfl, by decide, by decide⟩) (zz_cons (zz_ev_V (m_Gr_gatherCrew l) yw_Gr_gatherCrew yv_Gr_gatherCrew lk_Cr_162 ⟨rfl, rfl, by decide, by decide⟩ (ci := 5) rfl recv_Gr_gatherCrew) (zz_cons (zz_ev_V (m_Gr_noteSkills l) yw_Gr_noteSkills yv_Gr_noteSkills lk_Cr_190 ⟨rfl, rfl, by decide, by decide⟩ (ci := 5) rfl recv_Gr_noteSkills) (zz_cons (zz_ev_V (m_Rb_acceptedFor l) yw_Rb_acceptedFor yv_Rb_acceptedFor lk_Cr_193 ⟨rfl, rfl, by decide, by decide⟩ (ci := 6) rfl recv_Rb_acceptedFor) (zz_cons (zz_ev_V (m_Gr_countSkilled l) yw_Gr_countSkilled yv_Gr_countSkilled lk_Cr_196 ⟨rfl, rfl, by decide, by decide⟩ (ci := 5) rfl recv_Gr_countSkilled) zz_nil)))))))) (fun pc E h => (nomatch h)) (zz_VC0 80 ?_)
  rintro As ws k x ⟨⟨⟨tb, tl⟩, pa, ⟨rk, mr, fr, bf, un⟩, ⟨kd, sz, mb, co⟩, ⟨wh, hd, gs⟩, ⟨⟨le, ge, re, lo, nc⟩, rc, ⟨nx, nn, nk, nr⟩, ⟨wa, si, fh, lh⟩, sc⟩, sp, fl, wr⟩, R, c1, j, r, h, ⟨⟨q, hq, hsc⟩, -⟩, rfl, rfl, hk⟩
  unfold oHaving at hk
  dsimp only at hsc
  refine ⟨Nat.le_of_ble_eq_true rfl, ?_⟩
  cases fl
  · skip
    refine (And.intro (And.intro rfl (And.intro rfl (And.intro rfl (And.intro (by decide) (by decide))))) ?_)
    refine Exists.intro c1 (And.intro rfl (And.intro (fun cz => ?_) (fun cz => ?_)))
    rotate_left
    · rw [cz] at hk; exact zz_ex hk
    rw [cz] at hk
    obtain ⟨c, hc, rfl⟩ := iR_n (hi := 19) (by decide) cz
    refine (And.intro (And.intro rfl (And.intro rfl (And.intro rfl (And.intro (by decide) (by decide))))) ?_)
    refine Exists.intro j (And.intro rfl (And.intro (fun cz => ?_) (fun cz => ?_)))
    rotate_left
    · rw [cz] at hk; exact zz_ex hk
    rw [cz] at hk
    refine (And.intro (And.intro rfl (And.intro rfl (And.intro rfl (And.intro (by decide) (by decide))))) ?_)
    refine Exists.intro h (And.intro rfl (And.intro (fun cz => ?_) (fun cz => ?_)))
    rotate_left
    · rw [cz] at hk; exact zz_ex hk
    rw [cz] at hk
    refine (And.intro (And.intro rfl (And.intro rfl (And.intro rfl (And.intro (by decide) (by decide))))) ?_)
    refine Exists.intro r (And.intro rfl (And.intro (fun cz => ?_) (fun cz => ?_)))
    rotate_left
    · rw [cz] at hk; exact zz_ex hk
    rw [cz] at hk
    have ec : (nI c).toNatClampNeg = c := nI_clamp (by omega)
    refine (And.intro (And.intro rfl (And.intro rfl (And.intro rfl (And.intro (by decide) (by decide))))) ?_)
    refine Exists.intro ((tb, tl), pa, (rk, mr, fr, bf, un), (kd, sz, mb, co), (wh, hd, gs), ((le, ge, re, lo, nc), rc, (nx, nn, nk, nr), (wa, si, fh, lh), sc), sp, false, wr) (Exists.intro R (Exists.intro c (And.intro (by omega) (And.intro rfl (And.intro rfl (?_))))))
    intro wh gs hg
    rw [← ec] at hg
    refine (And.intro (And.intro rfl (And.intro rfl (And.intro rfl (And.intro (by decide) (by decide))))) ?_)
    refine Exists.intro ((tb, tl), pa, (rk, mr, fr, bf, un), (kd, sz, mb, co), (wh, hd, gs), ((le, ge, re, lo, nc), rc, (nx, nn, nk, nr), (wa, si, fh, lh), sc), sp, false, wr) (Exists.intro R (Exists.intro _ (Exists.intro h (And.intro hg (And.intro rfl (And.intro rfl (?_)))))))
    intro hd hn
    refine (And.intro (And.intro rfl (And.intro rfl (And.intro rfl (And.intro (by decide) (by decide))))) ?_)
    refine Exists.intro false (Exists.intro [.ref 1, .ref 3, .ref 4, .ref 10, .ref 15, .ref 18, .ref 32, .int wr] (Exists.intro ((tb, tl), pa, (rk, mr, fr, bf, un), (kd, sz, mb, co), (wh, hd, gs)) (Exists.intro sp (Exists.intro (gB 32 sp ++ R) (Exists.intro ((le, ge, re, lo, nc), rc, (nx, nn, nk, nr), (wa, si, fh, lh), sc) (Exists.intro q (Exists.intro j (Exists.intro h (And.intro hq (And.intro hsc (And.intro rfl (And.intro rfl (?_)))))))))))))
    have hk : ∀ g : qG, k (some (.int (aHaving ((tb, tl), pa, (rk, mr, fr, bf, un), (kd, sz, mb, co), (wh, hd, gs), ((le, ge, re, lo, nc), rc, (nx, nn, nk, nr), (wa, si, fh, lh), sc), sp, false, wr) (nI c) j r h))) (gC (uG ((tb, tl), pa, (rk, mr, fr, bf, un), (kd, sz, mb, co), (wh, hd, gs), ((le, ge, re, lo, nc), rc, (nx, nn, nk, nr), (wa, si, fh, lh), sc), sp, false, wr) g) ++ R) := hk
    unfold aHaving sG bAcc at hk
    dsimp only at hk
    rw [sc_nI (by omega) hsc] at hk
    refine (And.intro (And.intro rfl (And.intro rfl (And.intro rfl (And.intro (by decide) (by decide))))) ?_)
    refine Exists.intro ((tb, tl), pa, (rk, mr, fr, bf, un), (kd, sz, mb, co), (wh, hd, gs), ((le, ge, re, lo, nc), rc, (nx, nn, nk, nr), (wa, si, fh, lh), sc), sp, false, wr) (Exists.intro R (Exists.intro _ (Exists.intro (fun i => ph un i h 10) (Exists.intro _ (Exists.intro _ (And.intro hg (And.intro hn (And.intro rfl (And.intro rfl (?_))))))))))
    exact zz_e0 (hk (wh, hd, gs))
  · skip
    refine (And.intro (And.intro rfl (And.intro rfl (And.intro rfl (And.intro (by decide) (by decide))))) ?_)
    refine Exists.intro c1 (And.intro rfl (And.intro (fun cz => ?_) (fun cz => ?_)))
    rotate_left
    · rw [cz] at hk; exact zz_ex hk
    rw [cz] at hk
    obtain ⟨c, hc, rfl⟩ := iR_n (hi := 19) (by decide) cz
    refine (And.intro (And.intro rfl (And.intro rfl (And.intro rfl (And.intro (by decide) (by decide))))) ?_)
    refine Exists.intro j (And.intro rfl (And.intro (fun cz => ?_) (fun cz => ?_)))
    rotate_left
    · rw [cz] at hk; exact zz_ex hk
    rw [cz] at hk
    refine (And.intro (And.intro rfl (And.intro rfl (And.intro rfl (And.intro (by decide) (by decide))))) ?_)
    refine Exists.intro h (And.intro rfl (And.intro (fun cz => ?_) (fun cz => ?_)))
    rotate_left
    · rw [cz] at hk; exact zz_ex hk
    rw [cz] at hk
    refine (And.intro (And.intro rfl (And.intro rfl (And.intro rfl (And.intro (by decide) (by decide))))) ?_)
    refine Exists.intro r (And.intro rfl (And.intro (fun cz => ?_) (fun cz => ?_)))
    rotate_left
    · rw [cz] at hk; exact zz_ex hk
    rw [cz] at hk
    have ec : (nI c).toNatClampNeg = c := nI_clamp (by omega)
    refine (And.intro (And.intro rfl (And.intro rfl (And.intro rfl (And.intro (by decide) (by decide))))) ?_)
    refine Exists.intro ((tb, tl), pa, (rk, mr, fr, bf, un), (kd, sz, mb, co), (wh, hd, gs), ((le, ge, re, lo, nc), rc, (nx, nn, nk, nr), (wa, si, fh, lh), sc), sp, true, wr) (Exists.intro R (Exists.intro c (And.intro (by omega) (And.intro rfl (And.intro rfl (?_))))))
    intro wh gs hg
    rw [← ec] at hg
    refine (And.intro (And.intro rfl (And.intro rfl (And.intro rfl (And.intro (by decide) (by decide))))) ?_)
    refine Exists.intro ((tb, tl), pa, (rk, mr, fr, bf, un), (kd, sz, mb, co), (wh, hd, gs), ((le, ge, re, lo, nc), rc, (nx, nn, nk, nr), (wa, si, fh, lh), sc), sp, true, wr) (Exists.intro R (Exists.intro _ (Exists.intro h (And.intro hg (And.intro rfl (And.intro rfl (?_)))))))
    intro hd hn
    refine (And.intro (And.intro rfl (And.intro rfl (And.intro rfl (And.intro (by decide) (by decide))))) ?_)
    refine Exists.intro true (Exists.intro [.ref 1, .ref 3, .ref 4, .ref 10, .ref 15, .ref 32, .ref 18, .int wr] (Exists.intro ((tb, tl), pa, (rk, mr, fr, bf, un), (kd, sz, mb, co), (wh, hd, gs)) (Exists.intro sp (Exists.intro R (Exists.intro ((le, ge, re, lo, nc), rc, (nx, nn, nk, nr), (wa, si, fh, lh), sc) (Exists.intro q (Exists.intro j (Exists.intro h (And.intro hq (And.intro hsc (And.intro rfl (And.intro rfl (?_)))))))))))))
    have hk : ∀ g : qG, k (some (.int (aHaving ((tb, tl), pa, (rk, mr, fr, bf, un), (kd, sz, mb, co), (wh, hd, gs), ((le, ge, re, lo, nc), rc, (nx, nn, nk, nr), (wa, si, fh, lh), sc), sp, true, wr) (nI c) j r h))) (gC (uG ((tb, tl), pa, (rk, mr, fr, bf, un), (kd, sz, mb, co), (wh, hd, gs), ((le, ge, re, lo, nc), rc, (nx, nn, nk, nr), (wa, si, fh, lh), sc), sp, true, wr) g) ++ R) := hk
    unfold aHaving sG bAcc at hk
    dsimp only at hk
    rw [sc_nI (by omega) hsc] at hk
    refine (And.intro (And.intro rfl (And.intro rfl (And.intro rfl (And.intro (by decide) (by decide))))) ?_)
    refine Exists.intro ((tb, tl), pa, (rk, mr, fr, bf, un), (kd, sz, mb, co), (wh, hd, gs), ((le, ge, re, lo, nc), rc, (nx, nn, nk, nr), (wa, si, fh, lh), sc), sp, true, wr) (Exists.intro R (Exists.intro _ (Exists.intro (fun i => ph un i h 10) (Exists.intro _ (Exists.intro _ (And.intro hg (And.intro hn (And.intro rfl (And.intro rfl (?_))))))))))
    exact zz_e0 (hk (wh, hd, gs))
theorem recv_Cr_having : ∀ As ws k x, pt_Cr_having As ws k x → ∃ q As' fs, As = .ref q :: As' ∧ ws[q]? = some (.inr (0, fs)) := by
  rintro As ws k x ⟨s, R, c, j, r, h, hw, rfl, rfl, hk⟩
  exact ⟨_, _, _, rfl, rfl⟩
def oNever (h i : Int32) : Nat := bif decide (i < 0) || !iR 0 99999 h then 1 else 0
def aNever (p : qP) (b : qB) (h i : Int32) : Int32 := nV (fun j => !decide (b.1.1 j = -1) && nB p b (List.range 50) h j) 9 1 i
def pt_Cr_never : zz_PT := fun As ws k x => ∃ (s : qC) (R : List va_E) (h i : Int32), wfB s.2.2.2.2.2.1 ∧ As = [.ref 0, .int h, .int i] ∧ ws = gC s ++ R ∧ zo (oNever h i) (x "java/lang/IndexOutOfBoundsException" ws) False False (∀ g : qG, k (some (.int (aNever s.2.2.1 s.2.2.2.2.2.1 h i))) (gC (uG s g) ++ R))
theorem sub_z {i f : Int32} (h : i - f = 0) : f = i := by
  have := congrArg (· + f) h
  rw [show i - f + f = i from Int32.sub_add_cancel _ _, Int32.zero_add] at this
  exact this.symm
theorem sub_1 {i f : Int32} : i - f - 1 = i - (f + 1) := by
  rw [Int32.sub_eq_add_neg, Int32.sub_eq_add_neg, Int32.sub_eq_add_neg, Int32.neg_add, Int32.add_assoc, Int32.sub_eq_add_neg]
set_option maxHeartbeats 4000000 in
set_option maxRecDepth 100000 in
theorem m_Cr_never (l : Launch) (hl : l.stackTraces = false) : zz_M zz_CL l y_Cr_never (Cond.code y_Cr_never c_Cr_never 5 (some .int) :: zz_big) (zz_rm 7 113 1 6) (3, false, 0, 0, pt_Cr_never) := by
  refine zz_M_of (HOST := "CrewRules") (L := [(1, 114, (1, false, 0, 0, pt_Cr_requireHour)), (0, 205, (1, false, 0, 0, pt_Gr_gatherAll)), (0, 190, (2, false, 0, 0, pt_Gr_noteSkills)), (0, 156, (2, false, 0, 0, pt_Rb_has)), (0, 208, (3, false, 0, 0, pt_Cr_isBeyondGroup))]) (sw := sw_Cr_never) (pg := pg_Cr_never) (th := th_Cr_never) (ini := false) (by decide +kernel) zz_static (fun h => nomatch h) (by decide) (by decide) ok_Cr_never (zz_cons (zz_ev_S (m_Cr_requireHour l hl) yw_Cr_requireHour ys_Cr_requireHour lk_Cr_114 ⟨rfl, rfl, by decide, by decide⟩) (zz_cons (zz_ev_V (m_Gr_gatherAll l) yw_Gr_gatherAll yv_Gr_gatherAll lk_Cr_205 ⟨rfl, rfl, by decide, by decide⟩ (ci := 5) rfl recv_Gr_gatherAll) (zz_cons (zz_ev_V (m_Gr_noteSkills l) yw_Gr_noteSkills yv_Gr_noteSkills lk_Cr_190 ⟨rfl, rfl, by decide, by decide⟩ (ci := 5) rfl recv_Gr_noteSkills) (zz_cons (zz_ev_V (m_Rb_has l) yw_Rb_has yv_Rb_has lk_Cr_156 ⟨rfl, rfl, by decide, by decide⟩ (ci := 6) rfl recv_Rb_has) (zz_cons (zz_ev_V (m_Cr_isBeyondGroup l) yw_Cr_isBeyondGroup yv_Cr_isBeyondGroup lk_Cr_208 ⟨rfl, rfl, by decide, by decide⟩ (ci := 0) rfl recv_Cr_isBeyondGroup) zz_nil))))) (tk_Cr_never hl (by decide) (by decide)) (zz_VC1 120 38 [true, true, true, true, true] rfl ?_)
  rintro As ws k x ⟨⟨⟨tb, tl⟩, pa, ⟨rk, mr, fr, bf, un⟩, ⟨kd, sz, mb, co⟩, ⟨wh, hd, gs⟩, ⟨⟨le, ge, re, lo, nc⟩, rc, ⟨nx, nn, nk, nr⟩, ⟨wa, si, fh, lh⟩, sc⟩, sp, fl, wr⟩, R, h, i, ⟨hq, hw⟩, rfl, rfl, hk⟩
  unfold oNever at hk
  dsimp only at hq hw
  cases fl
  · skip
    refine ⟨Nat.le_of_ble_eq_true rfl, fun z ls st ws nc1 ns => ∃ (j : Nat) (f : Int32) (wh hd : qA), 1 ≤ j ∧ j ≤ 10 ∧ z = 10 - j ∧ gk wh 50 (List.range 50) ∧ (∀ (j p : Nat), (List.range 50)[j]? = some p → hd j = ph un p h 10) ∧ (∀ g : qG, k (some (.int (aNever (rk, mr, fr, bf, un) ((le, ge, re, lo, nc), rc, (nx, nn, nk, nr), (wa, si, fh, lh), sc) h i))) (gC (uG ((tb, tl), pa, (rk, mr, fr, bf, un), (kd, sz, mb, co), (wh, hd, gs), ((le, ge, re, lo, nc), rc, (nx, nn, nk, nr), (wa, si, fh, lh), sc), sp, false, wr) g) ++ R)) ∧ nV (fun j => !decide (le j = -1) && nB (rk, mr, fr, bf, un) ((le, ge, re, lo, nc), rc, (nx, nn, nk, nr), (wa, si, fh, lh), sc) (List.range 50) h j) (10 - j) j (i - f) = nV (fun j => !decide (le j = -1) && nB (rk, mr, fr, bf, un) ((le, ge, re, lo, nc), rc, (nx, nn, nk, nr), (wa, si, fh, lh), sc) (List.range 50) h j) 9 1 i ∧ ls = [some (.ref 0), some (.int h), some (.int i), some (.int f), some (.int (nI j))] ∧ st = [] ∧ ws = gC ((tb, tl), pa, (rk, mr, fr, bf, un), (kd, sz, mb, co), (wh, hd, 50), ((le, ge, re, lo, nc), rc, (nx, nn, nk, nr), (wa, si, fh, lh), sc), sp, false, wr) ++ R ∧ nc1 = 0 ∧ ns = 0, ?_, ?_⟩
    · rintro z ls st ws nc1 ns ⟨j, f, wh, hd, hj1, hj, rfl, hg, hn, hk, hv, rfl, rfl, rfl, rfl, rfl⟩
      have hkk := hk
      have hk : k (some (.int (nV (fun j => !decide (le j = -1) && nB (rk, mr, fr, bf, un) ((le, ge, re, lo, nc), rc, (nx, nn, nk, nr), (wa, si, fh, lh), sc) (List.range 50) h j) 9 1 i))) (gC ((tb, tl), pa, (rk, mr, fr, bf, un), (kd, sz, mb, co), (wh, hd, 50), ((le, ge, re, lo, nc), rc, (nx, nn, nk, nr), (wa, si, fh, lh), sc), sp, false, wr) ++ R) := hk (wh, hd, 50)
      refine And.intro (fun (c1 : 9 < nI j) => ?_) (fun (c1 : ¬ 9 < nI j) => ?_)
      · have : j = 10 := by
          have := (nI_ltI (a := 9) (by decide) (by omega)).mp c1
          omega
        subst this
        rw [← hv] at hk
        exact zz_e0 hk
      · have hj2 : j < 10 := Nat.lt_of_not_le (fun z : 10 ≤ j => c1 (nI_lt (a := 9) (by omega) (by omega)))
        obtain ⟨r, hr⟩ : ∃ r, nV (fun j => !decide (le j = -1) && nB (rk, mr, fr, bf, un) ((le, ge, re, lo, nc), rc, (nx, nn, nk, nr), (wa, si, fh, lh), sc) (List.range 50) h j) 9 1 i = r := ⟨_, rfl⟩
        rw [hr] at hv hk
        rw [show 10 - j = (9 - j) + 1 by omega] at hv
        unfold nV at hv
        refine (And.intro (And.intro rfl (And.intro rfl (And.intro rfl (And.intro (by decide) (by decide))))) ?_)
        refine Exists.intro false (Exists.intro [.ref 1, .ref 3, .ref 4, .ref 10, .ref 15, .ref 18, .ref 32, .int wr] (Exists.intro ((tb, tl), pa, (rk, mr, fr, bf, un), (kd, sz, mb, co), (wh, hd, 50)) (Exists.intro sp (Exists.intro (gB 32 sp ++ R) (Exists.intro ((le, ge, re, lo, nc), rc, (nx, nn, nk, nr), (wa, si, fh, lh), sc) (Exists.intro j (And.intro hj2 (And.intro rfl (And.intro rfl (?_))))))))))
        by_cases c2 : le j = -1
        · rw [decide_eq_true c2] at hv ⊢
          refine And.intro (fun _ => ?_) (fun (z : ¬ zb false = 0) => absurd rfl z)
          exact Exists.intro (10 - (j + 1)) (And.intro (by show 10 - (j + 1) < 10 - j; omega) ⟨j + 1, f, wh, hd, by omega, hj2, rfl, hg, hn, hkk, by rw [hr, ← hv]; show _ = nV (fun j => !decide (le j = -1) && nB (rk, mr, fr, bf, un) ((le, ge, re, lo, nc), rc, (nx, nn, nk, nr), (wa, si, fh, lh), sc) (List.range 50) h j) (9 - j) (j + 1) (i - f); congr 1; omega, by rw [← nI_1]; rfl, rfl, rfl, rfl, rfl⟩)
        · obtain ⟨m, hm, hm2⟩ := hw j hj2 c2
          rw [decide_eq_false c2] at hv ⊢
          refine And.intro (fun (z : zb true = 0) => absurd z (by decide)) (fun _ => ?_)
          refine (And.intro (And.intro rfl (And.intro rfl (And.intro rfl (And.intro (by decide) (by decide))))) ?_)
          refine Exists.intro ((tb, tl), pa, (rk, mr, fr, bf, un), (kd, sz, mb, co), (wh, hd, 50), ((le, ge, re, lo, nc), rc, (nx, nn, nk, nr), (wa, si, fh, lh), sc), sp, false, wr) (Exists.intro R (Exists.intro (List.range 50) (Exists.intro h (Exists.intro j (Exists.intro m (And.intro ⟨hg, hn⟩ (And.intro hq (And.intro hj2 (And.intro hm (And.intro hm2 (And.intro rfl (And.intro rfl (?_)))))))))))))
          rw [Bool.not_false, Bool.true_and] at hv
          cases hb : nB (rk, mr, fr, bf, un) ((le, ge, re, lo, nc), rc, (nx, nn, nk, nr), (wa, si, fh, lh), sc) (List.range 50) h j with
          | false =>
            rw [hb] at hv
            refine And.intro (fun _ => ?_) (fun (z : ¬ zb false = 0) => absurd rfl z)
            exact Exists.intro (10 - (j + 1)) (And.intro (by show 10 - (j + 1) < 10 - j; omega) ⟨j + 1, f, wh, hd, by omega, hj2, rfl, hg, hn, hkk, by rw [hr, ← hv]; show _ = nV (fun j => !decide (le j = -1) && nB (rk, mr, fr, bf, un) ((le, ge, re, lo, nc), rc, (nx, nn, nk, nr), (wa, si, fh, lh), sc) (List.range 50) h j) (9 - j) (j + 1) (i - f); congr 1; omega, by rw [← nI_1]; rfl, rfl, rfl, rfl, rfl⟩)
          | true =>
            rw [hb] at hv
            refine And.intro (fun (z : zb true = 0) => absurd z (by decide)) (fun _ => ?_)
            refine And.intro (fun (c3 : ¬ f = i) => ?_) (fun (c3 : f = i) => ?_)
            · rw [decide_eq_false (p := i - f = 0) (fun z => c3 (sub_z z))] at hv
              exact Exists.intro (10 - (j + 1)) (And.intro (by show 10 - (j + 1) < 10 - j; omega) ⟨j + 1, f + 1, wh, hd, by omega, hj2, rfl, hg, hn, hkk, by rw [hr, ← hv]; show _ = nV (fun j => !decide (le j = -1) && nB (rk, mr, fr, bf, un) ((le, ge, re, lo, nc), rc, (nx, nn, nk, nr), (wa, si, fh, lh), sc) (List.range 50) h j) (9 - j) (j + 1) (i - f - 1); rw [sub_1]; congr 1; omega, by rw [← nI_1]; rfl, rfl, rfl, rfl, rfl⟩)
            · rw [decide_eq_true (p := i - f = 0) (by rw [c3]; exact Int32.sub_self _)] at hv
              rw [← hv] at hk
              exact zz_e0 hk
    · refine And.intro (fun (c1 : 0 ≤ i) => ?_) (fun (c1 : ¬ 0 ≤ i) => ?_)
      · rw [decide_eq_false (p := i < 0) (fun z => by rw [zn_le] at c1; rw [zn_lt] at z; omega), Bool.false_or] at hk
        refine (And.intro (And.intro rfl (And.intro rfl (And.intro rfl (And.intro (by decide) (by decide))))) ?_)
        refine Exists.intro h (And.intro rfl (And.intro (fun cz => ?_) (fun cz => ?_)))
        rotate_left
        · rw [cz] at hk; exact zz_ex hk
        rw [cz] at hk
        refine (And.intro (And.intro rfl (And.intro rfl (And.intro rfl (And.intro (by decide) (by decide))))) ?_)
        refine Exists.intro ((tb, tl), pa, (rk, mr, fr, bf, un), (kd, sz, mb, co), (wh, hd, gs), ((le, ge, re, lo, nc), rc, (nx, nn, nk, nr), (wa, si, fh, lh), sc), sp, false, wr) (Exists.intro R (And.intro rfl (And.intro rfl (?_))))
        intro wh hg
        refine (And.intro (And.intro rfl (And.intro rfl (And.intro rfl (And.intro (by decide) (by decide))))) ?_)
        refine Exists.intro ((tb, tl), pa, (rk, mr, fr, bf, un), (kd, sz, mb, co), (wh, hd, 50), ((le, ge, re, lo, nc), rc, (nx, nn, nk, nr), (wa, si, fh, lh), sc), sp, false, wr) (Exists.intro R (Exists.intro _ (Exists.intro h (And.intro hg (And.intro rfl (And.intro rfl (?_)))))))
        intro hd hn
        exact Exists.intro 9 (And.intro trivial ⟨1, 0, wh, hd, by decide, by decide, rfl, hg, hn, hk, by rw [Int32.sub_zero], rfl, rfl, rfl, rfl, rfl⟩)
      · rw [decide_eq_true (p := i < 0) (by rw [zn_le] at c1; rw [zn_lt]; omega)] at hk
        exact zz_et hk
  · skip
    refine ⟨Nat.le_of_ble_eq_true rfl, fun z ls st ws nc1 ns => ∃ (j : Nat) (f : Int32) (wh hd : qA), 1 ≤ j ∧ j ≤ 10 ∧ z = 10 - j ∧ gk wh 50 (List.range 50) ∧ (∀ (j p : Nat), (List.range 50)[j]? = some p → hd j = ph un p h 10) ∧ (∀ g : qG, k (some (.int (aNever (rk, mr, fr, bf, un) ((le, ge, re, lo, nc), rc, (nx, nn, nk, nr), (wa, si, fh, lh), sc) h i))) (gC (uG ((tb, tl), pa, (rk, mr, fr, bf, un), (kd, sz, mb, co), (wh, hd, gs), ((le, ge, re, lo, nc), rc, (nx, nn, nk, nr), (wa, si, fh, lh), sc), sp, true, wr) g) ++ R)) ∧ nV (fun j => !decide (le j = -1) && nB (rk, mr, fr, bf, un) ((le, ge, re, lo, nc), rc, (nx, nn, nk, nr), (wa, si, fh, lh), sc) (List.range 50) h j) (10 - j) j (i - f) = nV (fun j => !decide (le j = -1) && nB (rk, mr, fr, bf, un) ((le, ge, re, lo, nc), rc, (nx, nn, nk, nr), (wa, si, fh, lh), sc) (List.range 50) h j) 9 1 i ∧ ls = [some (.ref 0), some (.int h), some (.int i), some (.int f), some (.int (nI j))] ∧ st = [] ∧ ws = gC ((tb, tl), pa, (rk, mr, fr, bf, un), (kd, sz, mb, co), (wh, hd, 50), ((le, ge, re, lo, nc), rc, (nx, nn, nk, nr), (wa, si, fh, lh), sc), sp, true, wr) ++ R ∧ nc1 = 0 ∧ ns = 0, ?_, ?_⟩
    · rintro z ls st ws nc1 ns ⟨j, f, wh, hd, hj1, hj, rfl, hg, hn, hk, hv, rfl, rfl, rfl, rfl, rfl⟩
      have hkk := hk
      have hk : k (some (.int (nV (fun j => !decide (le j = -1) && nB (rk, mr, fr, bf, un) ((le, ge, re, lo, nc), rc, (nx, nn, nk, nr), (wa, si, fh, lh), sc) (List.range 50) h j) 9 1 i))) (gC ((tb, tl), pa, (rk, mr, fr, bf, un), (kd, sz, mb, co), (wh, hd, 50), ((le, ge, re, lo, nc), rc, (nx, nn, nk, nr), (wa, si, fh, lh), sc), sp, true, wr) ++ R) := hk (wh, hd, 50)
      refine And.intro (fun (c1 : 9 < nI j) => ?_) (fun (c1 : ¬ 9 < nI j) => ?_)
      · have : j = 10 := by
          have := (nI_ltI (a := 9) (by decide) (by omega)).mp c1
          omega
        subst this
        rw [← hv] at hk
        exact zz_e0 hk
      · have hj2 : j < 10 := Nat.lt_of_not_le (fun z : 10 ≤ j => c1 (nI_lt (a := 9) (by omega) (by omega)))
        obtain ⟨r, hr⟩ : ∃ r, nV (fun j => !decide (le j = -1) && nB (rk, mr, fr, bf, un) ((le, ge, re, lo, nc), rc, (nx, nn, nk, nr), (wa, si, fh, lh), sc) (List.range 50) h j) 9 1 i = r := ⟨_, rfl⟩
        rw [hr] at hv hk
        rw [show 10 - j = (9 - j) + 1 by omega] at hv
        unfold nV at hv
        refine (And.intro (And.intro rfl (And.intro rfl (And.intro rfl (And.intro (by decide) (by decide))))) ?_)
        refine Exists.intro true (Exists.intro [.ref 1, .ref 3, .ref 4, .ref 10, .ref 15, .ref 32, .ref 18, .int wr] (Exists.intro ((tb, tl), pa, (rk, mr, fr, bf, un), (kd, sz, mb, co), (wh, hd, 50)) (Exists.intro sp (Exists.intro R (Exists.intro ((le, ge, re, lo, nc), rc, (nx, nn, nk, nr), (wa, si, fh, lh), sc) (Exists.intro j (And.intro hj2 (And.intro rfl (And.intro rfl (?_))))))))))
        by_cases c2 : le j = -1
        · rw [decide_eq_true c2] at hv ⊢
          refine And.intro (fun _ => ?_) (fun (z : ¬ zb false = 0) => absurd rfl z)
          exact Exists.intro (10 - (j + 1)) (And.intro (by show 10 - (j + 1) < 10 - j; omega) ⟨j + 1, f, wh, hd, by omega, hj2, rfl, hg, hn, hkk, by rw [hr, ← hv]; show _ = nV (fun j => !decide (le j = -1) && nB (rk, mr, fr, bf, un) ((le, ge, re, lo, nc), rc, (nx, nn, nk, nr), (wa, si, fh, lh), sc) (List.range 50) h j) (9 - j) (j + 1) (i - f); congr 1; omega, by rw [← nI_1]; rfl, rfl, rfl, rfl, rfl⟩)
        · obtain ⟨m, hm, hm2⟩ := hw j hj2 c2
          rw [decide_eq_false c2] at hv ⊢
          refine And.intro (fun (z : zb true = 0) => absurd z (by decide)) (fun _ => ?_)
          refine (And.intro (And.intro rfl (And.intro rfl (And.intro rfl (And.intro (by decide) (by decide))))) ?_)
          refine Exists.intro ((tb, tl), pa, (rk, mr, fr, bf, un), (kd, sz, mb, co), (wh, hd, 50), ((le, ge, re, lo, nc), rc, (nx, nn, nk, nr), (wa, si, fh, lh), sc), sp, true, wr) (Exists.intro R (Exists.intro (List.range 50) (Exists.intro h (Exists.intro j (Exists.intro m (And.intro ⟨hg, hn⟩ (And.intro hq (And.intro hj2 (And.intro hm (And.intro hm2 (And.intro rfl (And.intro rfl (?_)))))))))))))
          rw [Bool.not_false, Bool.true_and] at hv
          cases hb : nB (rk, mr, fr, bf, un) ((le, ge, re, lo, nc), rc, (nx, nn, nk, nr), (wa, si, fh, lh), sc) (List.range 50) h j with
          | false =>
            rw [hb] at hv
            refine And.intro (fun _ => ?_) (fun (z : ¬ zb false = 0) => absurd rfl z)
            exact Exists.intro (10 - (j + 1)) (And.intro (by show 10 - (j + 1) < 10 - j; omega) ⟨j + 1, f, wh, hd, by omega, hj2, rfl, hg, hn, hkk, by rw [hr, ← hv]; show _ = nV (fun j => !decide (le j = -1) && nB (rk, mr, fr, bf, un) ((le, ge, re, lo, nc), rc, (nx, nn, nk, nr), (wa, si, fh, lh), sc) (List.range 50) h j) (9 - j) (j + 1) (i - f); congr 1; omega, by rw [← nI_1]; rfl, rfl, rfl, rfl, rfl⟩)
          | true =>
            rw [hb] at hv
            refine And.intro (fun (z : zb true = 0) => absurd z (by decide)) (fun _ => ?_)
            refine And.intro (fun (c3 : ¬ f = i) => ?_) (fun (c3 : f = i) => ?_)
            · rw [decide_eq_false (p := i - f = 0) (fun z => c3 (sub_z z))] at hv
              exact Exists.intro (10 - (j + 1)) (And.intro (by show 10 - (j + 1) < 10 - j; omega) ⟨j + 1, f + 1, wh, hd, by omega, hj2, rfl, hg, hn, hkk, by rw [hr, ← hv]; show _ = nV (fun j => !decide (le j = -1) && nB (rk, mr, fr, bf, un) ((le, ge, re, lo, nc), rc, (nx, nn, nk, nr), (wa, si, fh, lh), sc) (List.range 50) h j) (9 - j) (j + 1) (i - f - 1); rw [sub_1]; congr 1; omega, by rw [← nI_1]; rfl, rfl, rfl, rfl, rfl⟩)
            · rw [decide_eq_true (p := i - f = 0) (by rw [c3]; exact Int32.sub_self _)] at hv
              rw [← hv] at hk
              exact zz_e0 hk
    · refine And.intro (fun (c1 : 0 ≤ i) => ?_) (fun (c1 : ¬ 0 ≤ i) => ?_)
      · rw [decide_eq_false (p := i < 0) (fun z => by rw [zn_le] at c1; rw [zn_lt] at z; omega), Bool.false_or] at hk
        refine (And.intro (And.intro rfl (And.intro rfl (And.intro rfl (And.intro (by decide) (by decide))))) ?_)
        refine Exists.intro h (And.intro rfl (And.intro (fun cz => ?_) (fun cz => ?_)))
        rotate_left
        · rw [cz] at hk; exact zz_ex hk
        rw [cz] at hk
        refine (And.intro (And.intro rfl (And.intro rfl (And.intro rfl (And.intro (by decide) (by decide))))) ?_)
        refine Exists.intro ((tb, tl), pa, (rk, mr, fr, bf, un), (kd, sz, mb, co), (wh, hd, gs), ((le, ge, re, lo, nc), rc, (nx, nn, nk, nr), (wa, si, fh, lh), sc), sp, true, wr) (Exists.intro R (And.intro rfl (And.intro rfl (?_))))
        intro wh hg
        refine (And.intro (And.intro rfl (And.intro rfl (And.intro rfl (And.intro (by decide) (by decide))))) ?_)
        refine Exists.intro ((tb, tl), pa, (rk, mr, fr, bf, un), (kd, sz, mb, co), (wh, hd, 50), ((le, ge, re, lo, nc), rc, (nx, nn, nk, nr), (wa, si, fh, lh), sc), sp, true, wr) (Exists.intro R (Exists.intro _ (Exists.intro h (And.intro hg (And.intro rfl (And.intro rfl (?_)))))))
        intro hd hn
        exact Exists.intro 9 (And.intro trivial ⟨1, 0, wh, hd, by decide, by decide, rfl, hg, hn, hk, by rw [Int32.sub_zero], rfl, rfl, rfl, rfl, rfl⟩)
      · rw [decide_eq_true (p := i < 0) (by rw [zn_le] at c1; rw [zn_lt]; omega)] at hk
        exact zz_et hk
theorem recv_Cr_never : ∀ As ws k x, pt_Cr_never As ws k x → ∃ q As' fs, As = .ref q :: As' ∧ ws[q]? = some (.inr (0, fs)) := by
  rintro As ws k x ⟨s, R, h, i, hw, rfl, rfl, hk⟩
  exact ⟨_, _, _, rfl, rfl⟩
