/-! ===== the model: never, rule, verdict ===== -/
/-- rule j is told and cannot be met -/
def kI (pp : qA × qA × qA × qA × qA) (H : qH) (im : qA) (h : Int32) (j : Nat) : Bool := !decide (H.1.1 j = 0) && !kQ pp H im h j (H.1.2.2.2.2.2 j).toNatClampNeg
def wfM (H : qH) : Prop := wfS H ∧ ∀ j, j < 10 → ¬ H.1.1 j = 0 → wfN H j
def pt_Mo_never : zz_PT := fun As ws k _ => ∃ (f : Nat → va_E) (R : List va_E) (t : qM) (h i : Int32), wfM t.2.2.1 ∧ As = [.ref 46, .int h, .int i] ∧ ws = gW f t R ∧ kz (oNever h i) (k (some (.int 0)) (gW f (uTh t (nI (oNever h i))) R)) (k (some (.int (nV (kI t.2.2.2.1 t.2.2.1 t.2.2.2.2.2 h) 9 1 i))) (gW f (uTh t 0) R))
theorem nV_t0 {f : Nat → Bool} {d k : Nat} (h : f k = true) : nV f (d + 1) k 0 = nI k := by unfold nV; rw [h]; rfl
theorem nV_t {f : Nat → Bool} {d k : Nat} {l : Int32} (h : f k = true) (hl : ¬ l = 0) : nV f (d + 1) k l = nV f d (k + 1) (l - 1) := by
  show (bif f k then (bif decide (l = 0) then nI k else nV f d (k + 1) (l - 1)) else nV f d (k + 1) l) = _
  rw [h, decide_eq_false hl]; rfl
theorem nV_u {f : Nat → Bool} {d k : Nat} {l : Int32} (h : f k = true) (hl : ¬ l = 0) : nV f (d + 1) k l = nV f d (k + 1) (l + (-1)) := by
  rw [← Int32.sub_eq_add_neg]; exact nV_t h hl
theorem nV_f {f : Nat → Bool} {d k : Nat} {l : Int32} (h : f k = false) : nV f (d + 1) k l = nV f d (k + 1) l := by
  show (bif f k then (bif decide (l = 0) then nI k else nV f d (k + 1) (l - 1)) else nV f d (k + 1) l) = _
  rw [h]; rfl
set_option maxHeartbeats 4000000 in
set_option maxRecDepth 100000 in
theorem m_Mo_never (l : Launch) : zz_M zz_CL l y_Mo_never (Cond.code y_Mo_never c_Mo_never 5 (some .int) :: zz_big) (zz_rm 5 121 1 6) (3, false, 0, 0, pt_Mo_never) := by
  refine zz_M_of (HOST := "CrewRules") (L := [(1, 146, (1, false, 0, 0, pt_Mo_isHour)), (0, 94, (4, false, 0, 0, pt_Mo_throwing)), (0, 185, (3, false, 0, 0, pt_Mo_canBeMet))]) (sw := sw_Mo_never) (pg := pg_Mo_never) (th := th_Mo_never) (ini := false) (by decide +kernel) zz_static (fun h => nomatch h) (by decide) (by decide) ok_Mo_never (zz_cons (zz_ev_S (m_Mo_isHour l) yw_Mo_isHour ys_Mo_isHour lk_Mo_146 ⟨rfl, rfl, by decide, by decide⟩) (zz_cons (zz_ev_V (m_Mo_throwing l) yw_Mo_throwing yv_Mo_throwing lk_Mo_94 ⟨rfl, rfl, by decide, by decide⟩ (ci := 7) rfl recv_Mo_throwing) (zz_cons (zz_ev_V (m_Mo_canBeMet l) yw_Mo_canBeMet yv_Mo_canBeMet lk_Mo_185 ⟨rfl, rfl, by decide, by decide⟩ (ci := 7) rfl recv_Mo_canBeMet) zz_nil))) (fun pc E h => (nomatch h)) (zz_VC1 80 32 [true, true, true, true, true] rfl ?_)
  rintro As ws k x ⟨f, R, ⟨⟨th, tp, ln, aa, wr, pl⟩, ta, ⟨⟨td, le, ge, re, lg, ne⟩, ⟨nn, nk, nr, nx⟩, su, ⟨wa, ot, fm, tz⟩⟩, ⟨rk, mr, un, bg, bf⟩, kd, im⟩, h, i, hM, rfl, rfl, hk⟩
  unfold oNever at hk
  dsimp only at hk
  by_cases c1 : i < 0
  · rw [decide_eq_true c1] at hk
    have hk := hk.2 (show ¬ (1 : Nat) = 0 by decide)
    refine ⟨Nat.le_of_ble_eq_true rfl, fun _ _ _ _ _ _ => False, fun _ _ _ _ _ _ h => h.elim, ?_⟩
    refine And.intro (fun _ => ?_) (fun (z : ¬ i < 0) => absurd c1 z)
    refine (And.intro (And.intro rfl (And.intro rfl (And.intro rfl (And.intro (by decide) (by decide))))) ?_)
    refine Exists.intro f (Exists.intro R (Exists.intro ((th, tp, ln, aa, wr, pl), ta, ((td, le, ge, re, lg, ne), (nn, nk, nr, nx), su, (wa, ot, fm, tz)), (rk, mr, un, bg, bf), kd, im) (Exists.intro true (Exists.intro false (Exists.intro false (And.intro rfl (And.intro rfl (?_))))))))
    refine And.intro (fun (z : zb true = 0) => absurd z (by decide)) (fun _ => ?_)
    exact zz_e0 hk
  · rw [decide_eq_false c1] at hk
    cases c2 : iR 0 99999 h with
    | false =>
      rw [c2] at hk
      have hk := hk.2 (show ¬ (1 : Nat) = 0 by decide)
      refine ⟨Nat.le_of_ble_eq_true rfl, fun _ _ _ _ _ _ => False, fun _ _ _ _ _ _ h => h.elim, ?_⟩
      refine And.intro (fun (z : i < 0) => absurd z c1) (fun _ => ?_)
      refine (And.intro (And.intro rfl (And.intro rfl (And.intro rfl (And.intro (by decide) (by decide))))) ?_)
      refine Exists.intro h (And.intro rfl (?_))
      rw [c2]
      refine And.intro (fun (z : ¬ zb false = 0) => absurd rfl z) (fun _ => ?_)
      refine (And.intro (And.intro rfl (And.intro rfl (And.intro rfl (And.intro (by decide) (by decide))))) ?_)
      refine Exists.intro f (Exists.intro R (Exists.intro ((th, tp, ln, aa, wr, pl), ta, ((td, le, ge, re, lg, ne), (nn, nk, nr, nx), su, (wa, ot, fm, tz)), (rk, mr, un, bg, bf), kd, im) (Exists.intro true (Exists.intro false (Exists.intro false (And.intro rfl (And.intro rfl (?_))))))))
      refine And.intro (fun (z : zb true = 0) => absurd z (by decide)) (fun _ => ?_)
      exact zz_e0 hk
    | true =>
      rw [c2] at hk
      have hk := hk.1 rfl
      refine ⟨Nat.le_of_ble_eq_true rfl, fun z ls st ws nc ns => ∃ (j : Nat) (l : Int32), 1 ≤ j ∧ j ≤ 10 ∧ nV (kI (rk, mr, un, bg, bf) ((td, le, ge, re, lg, ne), (nn, nk, nr, nx), su, (wa, ot, fm, tz)) im h) (10 - j) j l = nV (kI (rk, mr, un, bg, bf) ((td, le, ge, re, lg, ne), (nn, nk, nr, nx), su, (wa, ot, fm, tz)) im h) 9 1 i ∧ z = 10 - j ∧ ls = [some (.ref 46), some (.int h), some (.int i), some (.int l), some (.int (nI j))] ∧ st = [] ∧ ws = gW f (((nI 0), tp, ln, aa, wr, pl), ta, ((td, le, ge, re, lg, ne), (nn, nk, nr, nx), su, (wa, ot, fm, tz)), (rk, mr, un, bg, bf), kd, im) R ∧ nc = 0 ∧ ns = 0, ?_, ?_⟩
      · rintro z ls st ws nc ns ⟨j, l, hj1, hj, hv, rfl, rfl, rfl, rfl, rfl, rfl⟩
        refine And.intro (fun (c1 : 10 ≤ nI j) => ?_) (fun (c1 : ¬ 10 ≤ nI j) => ?_)
        · have : j = 10 := by
            have := (nI_leI (a := 10) (by decide) (by omega)).mp c1
            omega
          subst this
          rw [← hv] at hk
          exact zz_e0 hk
        · have hj2 : j < 10 := Nat.lt_of_not_le (fun z : 10 ≤ j => c1 (nI_le z (by omega)))
          have ej : (nI j).toNatClampNeg = j := nI_clamp (by omega)
          refine And.intro (zn_in (show j < 20 by omega) (by decide)) ?_
          refine And.intro (fun (d : td (nI j).toNatClampNeg = 0) => ?_) (fun (d : ¬ td (nI j).toNatClampNeg = 0) => ?_)
          · rw [ej] at d
            have hI : (kI (rk, mr, un, bg, bf) ((td, le, ge, re, lg, ne), (nn, nk, nr, nx), su, (wa, ot, fm, tz)) im h) j = false := by unfold kI; dsimp only; rw [decide_eq_true d]; rfl
            exact Exists.intro (10 - (j + 1)) (And.intro (by show 10 - (j + 1) < 10 - j; omega) ⟨j + 1, l, by omega, hj2, (by have z := nV_f (d := 10 - (j + 1)) (l := l) hI; rw [show 10 - (j + 1) + 1 = 10 - j by omega] at z; exact z.symm.trans hv), rfl, (by rw [← nI_1 j]; rfl), rfl, rfl, rfl, rfl⟩)
          · rw [ej] at d
            refine (And.intro (And.intro rfl (And.intro rfl (And.intro rfl (And.intro (by decide) (by decide))))) ?_)
            refine Exists.intro f (Exists.intro R (Exists.intro (((nI 0), tp, ln, aa, wr, pl), ta, ((td, le, ge, re, lg, ne), (nn, nk, nr, nx), su, (wa, ot, fm, tz)), (rk, mr, un, bg, bf), kd, im) (Exists.intro j (Exists.intro h (And.intro hj2 (And.intro hM.1 (And.intro (hM.2 j hj2 d) (And.intro rfl (And.intro rfl (?_))))))))))
            cases hq : kQ (rk, mr, un, bg, bf) ((td, le, ge, re, lg, ne), (nn, nk, nr, nx), su, (wa, ot, fm, tz)) im h j (ne j).toNatClampNeg with
            | true =>
              refine And.intro (fun _ => ?_) (fun (z : zb true = 0) => absurd z (by decide))
              have hI : (kI (rk, mr, un, bg, bf) ((td, le, ge, re, lg, ne), (nn, nk, nr, nx), su, (wa, ot, fm, tz)) im h) j = false := by unfold kI; dsimp only; rw [hq]; exact Bool.and_false _
              exact Exists.intro (10 - (j + 1)) (And.intro (by show 10 - (j + 1) < 10 - j; omega) ⟨j + 1, l, by omega, hj2, (by have z := nV_f (d := 10 - (j + 1)) (l := l) hI; rw [show 10 - (j + 1) + 1 = 10 - j by omega] at z; exact z.symm.trans hv), rfl, (by rw [← nI_1 j]; rfl), rfl, rfl, rfl, rfl⟩)
            | false =>
              refine And.intro (fun (z : ¬ zb false = 0) => absurd rfl z) (fun _ => ?_)
              have hI : (kI (rk, mr, un, bg, bf) ((td, le, ge, re, lg, ne), (nn, nk, nr, nx), su, (wa, ot, fm, tz)) im h) j = true := by unfold kI; dsimp only; rw [hq, decide_eq_false d]; rfl
              refine And.intro (fun (d2 : ¬ l = 0) => ?_) (fun (d2 : l = 0) => ?_)
              · exact Exists.intro (10 - (j + 1)) (And.intro (by show 10 - (j + 1) < 10 - j; omega) ⟨j + 1, (l + (-1)), by omega, hj2, (by have z := nV_u (d := 10 - (j + 1)) hI d2; rw [show 10 - (j + 1) + 1 = 10 - j by omega] at z; exact z.symm.trans hv), rfl, (by rw [← nI_1 j]; rfl), rfl, rfl, rfl, rfl⟩)
              · subst d2
                have z := nV_t0 (d := 10 - (j + 1)) hI
                rw [show 10 - (j + 1) + 1 = 10 - j by omega, hv] at z
                rw [z] at hk
                exact zz_e0 hk
      · skip
        refine And.intro (fun (z : i < 0) => absurd z c1) (fun _ => ?_)
        refine (And.intro (And.intro rfl (And.intro rfl (And.intro rfl (And.intro (by decide) (by decide))))) ?_)
        refine Exists.intro h (And.intro rfl (?_))
        rw [c2]
        refine And.intro (fun _ => ?_) (fun (z : zb true = 0) => absurd z (by decide))
        refine (And.intro (And.intro rfl (And.intro rfl (And.intro rfl (And.intro (by decide) (by decide))))) ?_)
        refine Exists.intro f (Exists.intro R (Exists.intro ((th, tp, ln, aa, wr, pl), ta, ((td, le, ge, re, lg, ne), (nn, nk, nr, nx), su, (wa, ot, fm, tz)), (rk, mr, un, bg, bf), kd, im) (Exists.intro false (Exists.intro false (Exists.intro false (And.intro rfl (And.intro rfl (?_))))))))
        refine And.intro (fun _ => ?_) (fun (z : ¬ zb false = 0) => absurd rfl z)
        exact Exists.intro 9 (And.intro trivial ⟨1, i, Nat.le_refl _, by decide, rfl, rfl, rfl, rfl, rfl, rfl, rfl⟩)
theorem recv_Mo_never : ∀ As ws k x, pt_Mo_never As ws k x → ∃ q As' fs, As = .ref q :: As' ∧ ws[q]? = some (.inr (7, fs)) := by
  rintro As ws k x ⟨f, R, t, h, i, hM, rfl, rfl, hk⟩
  exact ⟨_, _, _, rfl, rfl⟩
def oRuleM (td : qA) (k w : Int32) : Nat := bif !iR 1 9 k || (decide (td k.toNatClampNeg = 0) || !iR 0 4 w) then 1 else 0
def aRuleM (H : qA × qA × qA × qA × qA × qA) (k w : Int32) : Int32 := if w = 0 then H.2.1 k.toNatClampNeg else if w = 1 then H.2.2.1 k.toNatClampNeg else if w = 2 then H.2.2.2.1 k.toNatClampNeg else if w = 3 then H.2.2.2.2.1 k.toNatClampNeg else H.2.2.2.2.2 k.toNatClampNeg
def pt_Mo_rule : zz_PT := fun As ws k _ => ∃ (f : Nat → va_E) (R : List va_E) (t : qM) (j w : Int32), As = [.ref 46, .int j, .int w] ∧ ws = gW f t R ∧ kz (oRuleM t.2.2.1.1.1 j w) (k (some (.int 0)) (gW f (uTh t (nI (oRuleM t.2.2.1.1.1 j w))) R)) (k (some (.int (aRuleM t.2.2.1.1 j w))) (gW f (uTh t 0) R))
theorem iR_s {j : Int32} (h : iR 1 9 j = true) : ∃ n, 1 ≤ n ∧ n ≤ 9 ∧ j = nI n := by
  have g := iR_g h
  rw [zn_le, zn_le] at g
  have e1 : (1 : Int32).toInt = 1 := by decide
  have e9 : (9 : Int32).toInt = 9 := by decide
  rw [e1, e9] at g
  refine ⟨j.toInt.toNat, by omega, by omega, ?_⟩
  rw [zn_eq, nI_toInt (by omega)]
  omega
set_option maxHeartbeats 4000000 in
set_option maxRecDepth 100000 in
theorem m_Mo_rule (l : Launch) : zz_M zz_CL l y_Mo_rule (Cond.code y_Mo_rule c_Mo_rule 3 (some .int) :: zz_big) (zz_rm 2 43 1 6) (3, false, 0, 0, pt_Mo_rule) := by
  refine zz_M_of (HOST := "CrewRules") (L := [(1, 87, (3, false, 0, 0, pt_Mo_between)), (0, 94, (4, false, 0, 0, pt_Mo_throwing))]) (sw := sw_Mo_rule) (pg := pg_Mo_rule) (th := th_Mo_rule) (ini := false) (by decide +kernel) zz_static (fun h => nomatch h) (by decide) (by decide) ok_Mo_rule (zz_cons (zz_ev_S (m_Mo_between l) yw_Mo_between ys_Mo_between lk_Mo_87 ⟨rfl, rfl, by decide, by decide⟩) (zz_cons (zz_ev_V (m_Mo_throwing l) yw_Mo_throwing yv_Mo_throwing lk_Mo_94 ⟨rfl, rfl, by decide, by decide⟩ (ci := 7) rfl recv_Mo_throwing) zz_nil)) (fun pc E h => (nomatch h)) (zz_VC0 80 ?_)
  rintro As ws k x ⟨f, R, ⟨⟨th, tp, ln, aa, wr, pl⟩, ta, ⟨⟨td, le, ge, re, lg, ne⟩, ⟨nn, nk, nr, nx⟩, su, ⟨wa, ot, fm, tz⟩⟩, ⟨rk, mr, un, bg, bf⟩, kd, im⟩, j, w, rfl, rfl, hk⟩
  unfold oRuleM at hk
  dsimp only at hk
  refine ⟨Nat.le_of_ble_eq_true rfl, ?_⟩
  refine (And.intro (And.intro rfl (And.intro rfl (And.intro rfl (And.intro (by decide) (by decide))))) ?_)
  refine Exists.intro j (Exists.intro 1 (Exists.intro 9 (And.intro rfl (?_))))
  cases c1 : iR 1 9 j with
  | true =>
    refine And.intro (fun (z : zb true = 0) => absurd z (by decide)) (fun _ => ?_)
    obtain ⟨n, hn1, hn9, rfl⟩ := iR_s c1
    have ej : (nI n).toNatClampNeg = n := nI_clamp (by omega)
    rw [ej] at hk
    refine (And.intro (And.intro rfl (And.intro rfl (And.intro rfl (And.intro (by decide) (by decide))))) ?_)
    refine Exists.intro (nI n) (Exists.intro 1 (Exists.intro 9 (And.intro rfl (?_))))
    rw [c1]
    refine And.intro (fun (z : zb true = 0) => absurd z (by decide)) (fun _ => ?_)
    refine And.intro (zn_in (show n < 20 by omega) (by decide)) ?_
    refine And.intro (fun (d : td (nI n).toNatClampNeg = 0) => ?_) (fun (d : ¬ td (nI n).toNatClampNeg = 0) => ?_)
    · rw [ej] at d
      rw [c1, decide_eq_true d] at hk
      have hk := hk.2 (show ¬ (1 : Nat) = 0 by decide)
      refine (And.intro (And.intro rfl (And.intro rfl (And.intro rfl (And.intro (by decide) (by decide))))) ?_)
      refine Exists.intro f (Exists.intro R (Exists.intro ((th, tp, ln, aa, wr, pl), ta, ((td, le, ge, re, lg, ne), (nn, nk, nr, nx), su, (wa, ot, fm, tz)), (rk, mr, un, bg, bf), kd, im) (Exists.intro true (Exists.intro false (Exists.intro false (And.intro rfl (And.intro rfl (?_))))))))
      refine And.intro (fun (z : zb true = 0) => absurd z (by decide)) (fun _ => ?_)
      exact zz_e0 hk
    · rw [ej] at d
      refine (And.intro (And.intro rfl (And.intro rfl (And.intro rfl (And.intro (by decide) (by decide))))) ?_)
      refine Exists.intro w (Exists.intro 0 (Exists.intro 4 (And.intro rfl (?_))))
      cases c3 : iR 0 4 w with
      | true =>
        refine And.intro (fun _ => ?_) (fun (z : zb true = 0) => absurd z (by decide))
        rw [c1, decide_eq_false d, c3] at hk
        have hk := hk.1 rfl
        unfold aRuleM at hk
        dsimp only at hk
        rw [ej] at hk
        refine (And.intro (And.intro rfl (And.intro rfl (And.intro rfl (And.intro (by decide) (by decide))))) ?_)
        refine Exists.intro f (Exists.intro R (Exists.intro ((th, tp, ln, aa, wr, pl), ta, ((td, le, ge, re, lg, ne), (nn, nk, nr, nx), su, (wa, ot, fm, tz)), (rk, mr, un, bg, bf), kd, im) (Exists.intro false (Exists.intro false (Exists.intro false (And.intro rfl (And.intro rfl (?_))))))))
        refine And.intro (fun _ => ?_) (fun (z : ¬ zb false = 0) => absurd rfl z)
        have i2 : vp_in (nI n) 20 := zn_in (by omega) (by decide)
        refine And.intro (fun (d0 : ¬ w = 0) => ?_) (fun (d0 : w = 0) => ?_)
        rotate_left
        · rw [if_pos d0, show le n = le (nI n).toNatClampNeg by rw [ej]] at hk
          exact And.intro i2 (zz_e0 hk)
        rw [if_neg d0] at hk
        refine And.intro (fun (d1 : ¬ w = 1) => ?_) (fun (d1 : w = 1) => ?_)
        rotate_left
        · rw [if_pos d1, show ge n = ge (nI n).toNatClampNeg by rw [ej]] at hk
          exact And.intro i2 (zz_e0 hk)
        rw [if_neg d1] at hk
        refine And.intro (fun (d2 : ¬ w = 2) => ?_) (fun (d2 : w = 2) => ?_)
        rotate_left
        · rw [if_pos d2, show re n = re (nI n).toNatClampNeg by rw [ej]] at hk
          exact And.intro i2 (zz_e0 hk)
        rw [if_neg d2] at hk
        refine And.intro (fun (d3 : ¬ w = 3) => ?_) (fun (d3 : w = 3) => ?_)
        rotate_left
        · rw [if_pos d3, show lg n = lg (nI n).toNatClampNeg by rw [ej]] at hk
          exact And.intro i2 (zz_e0 hk)
        rw [if_neg d3, show ne n = ne (nI n).toNatClampNeg by rw [ej]] at hk
        exact And.intro i2 (zz_e0 hk)
      | false =>
        refine And.intro (fun (z : ¬ zb false = 0) => absurd rfl z) (fun _ => ?_)
        rw [c1, decide_eq_false d, c3] at hk
        have hk := hk.2 (show ¬ (1 : Nat) = 0 by decide)
        refine (And.intro (And.intro rfl (And.intro rfl (And.intro rfl (And.intro (by decide) (by decide))))) ?_)
        refine Exists.intro f (Exists.intro R (Exists.intro ((th, tp, ln, aa, wr, pl), ta, ((td, le, ge, re, lg, ne), (nn, nk, nr, nx), su, (wa, ot, fm, tz)), (rk, mr, un, bg, bf), kd, im) (Exists.intro true (Exists.intro false (Exists.intro false (And.intro rfl (And.intro rfl (?_))))))))
        refine And.intro (fun (z : zb true = 0) => absurd z (by decide)) (fun _ => ?_)
        exact zz_e0 hk
  | false =>
    refine And.intro (fun _ => ?_) (fun (z : ¬ zb false = 0) => absurd rfl z)
    rw [c1] at hk
    have hk := hk.2 (show ¬ (1 : Nat) = 0 by decide)
    refine (And.intro (And.intro rfl (And.intro rfl (And.intro rfl (And.intro (by decide) (by decide))))) ?_)
    refine Exists.intro f (Exists.intro R (Exists.intro ((th, tp, ln, aa, wr, pl), ta, ((td, le, ge, re, lg, ne), (nn, nk, nr, nx), su, (wa, ot, fm, tz)), (rk, mr, un, bg, bf), kd, im) (Exists.intro true (Exists.intro false (Exists.intro false (And.intro rfl (And.intro rfl (?_))))))))
    refine And.intro (fun (z : zb true = 0) => absurd z (by decide)) (fun _ => ?_)
    exact zz_e0 hk
theorem recv_Mo_rule : ∀ As ws k x, pt_Mo_rule As ws k x → ∃ q As' fs, As = .ref q :: As' ∧ ws[q]? = some (.inr (7, fs)) := by
  rintro As ws k x ⟨f, R, t, j, w, rfl, rfl, hk⟩
  exact ⟨_, _, _, rfl, rfl⟩
