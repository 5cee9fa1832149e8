/-! ===== the model: what is told ===== -/
def mPerson (t : qM) (p : Nat) (r m : Int32) : qM := (t.1, t.2.1, t.2.2.1, (upd t.2.2.2.1.1 p r, upd t.2.2.2.1.2.1 p m, t.2.2.2.1.2.2), t.2.2.2.2)
def mSkill (t : qM) (p s : Nat) (h : Int32) : qM := (t.1, t.2.1, t.2.2.1, (t.2.2.2.1.1, t.2.2.2.1.2.1, upd t.2.2.2.1.2.2.1 (10 * p + s) h, t.2.2.2.1.2.2.2), t.2.2.2.2)
def mDuty (t : qM) (p : Nat) (b e : Int32) : qM := (t.1, t.2.1, t.2.2.1, (t.2.2.2.1.1, t.2.2.2.1.2.1, t.2.2.2.1.2.2.1, upd t.2.2.2.1.2.2.2.1 p b, upd t.2.2.2.1.2.2.2.2 p e), t.2.2.2.2)
def mKind (t : qM) (c : Nat) (j : Int32) : qM := (t.1, t.2.1, t.2.2.1, t.2.2.2.1, upd t.2.2.2.2.1 c j, t.2.2.2.2.2)
def mIn (t : qM) (i : Nat) (v : Int32) : qM := (t.1, t.2.1, t.2.2.1, t.2.2.2.1, t.2.2.2.2.1, upd t.2.2.2.2.2 i v)
def mTape (t : qM) (ta : qA) (tp : Int32) : qM := ((t.1.1, tp, t.1.2.2), ta, t.2.2)

def pt_Mo_person : zz_PT := fun As ws k _ => ∃ (f : Nat → va_E) (R : List va_E) (t : qM) (p r m : Int32), As = [.ref 46, .int p, .int r, .int m] ∧ ws = gW f t R ∧ kz (oPerson p r m) (k none (gW f (uTh t (nI (oPerson p r m))) R)) (k none (gW f (uTh (mPerson t p.toNatClampNeg r m) 0) R))
set_option maxHeartbeats 4000000 in
set_option maxRecDepth 100000 in
theorem m_Mo_person (l : Launch) : zz_M zz_CL l y_Mo_person (Cond.code y_Mo_person c_Mo_person 4 none :: zz_big) (zz_rm 3 62 1 6) (4, false, 0, 0, pt_Mo_person) := by
  refine zz_M_of (HOST := "CrewRules") (L := [(1, 143, (1, false, 0, 0, pt_Mo_isPerson)), (1, 87, (3, false, 0, 0, pt_Mo_between)), (0, 94, (4, false, 0, 0, pt_Mo_throwing))]) (sw := sw_Mo_person) (pg := pg_Mo_person) (th := th_Mo_person) (ini := false) (by decide +kernel) zz_static (fun h => nomatch h) (by decide) (by decide) ok_Mo_person (zz_cons (zz_ev_S (m_Mo_isPerson l) yw_Mo_isPerson ys_Mo_isPerson lk_Mo_143 ⟨rfl, rfl, by decide, by decide⟩) (zz_cons (zz_ev_S (m_Mo_between l) yw_Mo_between ys_Mo_between lk_Mo_87 ⟨rfl, rfl, by decide, by decide⟩) (zz_cons (zz_ev_V (m_Mo_throwing l) yw_Mo_throwing yv_Mo_throwing lk_Mo_94 ⟨rfl, rfl, by decide, by decide⟩ (ci := 7) rfl recv_Mo_throwing) zz_nil))) (fun pc E h => (nomatch h)) (zz_VC0 80 ?_)
  rintro As ws k x ⟨f, R, ⟨⟨th, tp, ln, aa, wr, pl⟩, ta, ⟨⟨td, le, ge, re, lg, ne⟩, ⟨nn, nk, nr, nx⟩, su, ⟨wa, ot, fm, tz⟩⟩, ⟨rk, mr, un, bg, bf⟩, kd, im⟩, p, r, m, rfl, rfl, hk⟩
  unfold oPerson at hk
  try dsimp only at hk
  refine ⟨Nat.le_of_ble_eq_true rfl, ?_⟩
  refine (And.intro (And.intro rfl (And.intro rfl (And.intro rfl (And.intro (by decide) (by decide))))) ?_)
  refine Exists.intro p (And.intro rfl (?_))
  cases c1 : iR 0 49 p with
  | true =>
    refine And.intro (fun _ => ?_) (fun (z : zb true = 0) => absurd z (by decide))
    refine (And.intro (And.intro rfl (And.intro rfl (And.intro rfl (And.intro (by decide) (by decide))))) ?_)
    refine Exists.intro r (Exists.intro 0 (Exists.intro 9 (And.intro rfl (?_))))
    cases c2 : iR 0 9 r with
    | true =>
      refine And.intro (fun (z : zb true = 0) => absurd z (by decide)) (fun _ => ?_)
      refine (And.intro (And.intro rfl (And.intro rfl (And.intro rfl (And.intro (by decide) (by decide))))) ?_)
      refine Exists.intro m (Exists.intro 0 (Exists.intro 3 (And.intro rfl (?_))))
      cases c3 : iR 0 3 m with
      | true =>
        refine And.intro (fun _ => ?_) (fun (z : zb true = 0) => absurd z (by decide))
        obtain ⟨p, hp, rfl⟩ := iR_n (hi := 49) (by decide) c1
        rw [c1, c2, c3] at hk
        have hk := hk.1 rfl
        have i1 : vp_in (nI p) 50 := zn_in (by omega) (by decide)
        refine (And.intro (And.intro rfl (And.intro rfl (And.intro rfl (And.intro (by decide) (by decide))))) ?_)
        refine Exists.intro f (Exists.intro R (Exists.intro ((th, tp, ln, aa, wr, pl), ta, ((td, le, ge, re, lg, ne), (nn, nk, nr, nx), su, (wa, ot, fm, tz)), (rk, mr, un, bg, bf), kd, im) (Exists.intro false (Exists.intro false (Exists.intro false (And.intro rfl (And.intro rfl (?_))))))))
        refine And.intro (fun _ => ?_) (fun (z : ¬ zb false = 0) => absurd rfl z)
        exact And.intro i1 (And.intro i1 (zz_ev0 hk))
      | false =>
        refine And.intro (fun (z : ¬ zb false = 0) => absurd rfl z) (fun _ => ?_)
        rw [c1, c2, c3] at hk
        have hk := hk.2 (show ¬ (2 : Nat) = 0 by decide)
        refine (And.intro (And.intro rfl (And.intro rfl (And.intro rfl (And.intro (by decide) (by decide))))) ?_)
        refine Exists.intro f (Exists.intro R (Exists.intro ((th, tp, ln, aa, wr, pl), ta, ((td, le, ge, re, lg, ne), (nn, nk, nr, nx), su, (wa, ot, fm, tz)), (rk, mr, un, bg, bf), kd, im) (Exists.intro false (Exists.intro true (Exists.intro false (And.intro rfl (And.intro rfl (?_))))))))
        refine And.intro (fun (z : zb true = 0) => absurd z (by decide)) (fun _ => ?_)
        exact zz_ev0 hk
    | false =>
      refine And.intro (fun _ => ?_) (fun (z : ¬ zb false = 0) => absurd rfl z)
      rw [c1, c2] at hk
      have hk := hk.2 (show ¬ (2 : Nat) = 0 by decide)
      refine (And.intro (And.intro rfl (And.intro rfl (And.intro rfl (And.intro (by decide) (by decide))))) ?_)
      refine Exists.intro f (Exists.intro R (Exists.intro ((th, tp, ln, aa, wr, pl), ta, ((td, le, ge, re, lg, ne), (nn, nk, nr, nx), su, (wa, ot, fm, tz)), (rk, mr, un, bg, bf), kd, im) (Exists.intro false (Exists.intro true (Exists.intro false (And.intro rfl (And.intro rfl (?_))))))))
      refine And.intro (fun (z : zb true = 0) => absurd z (by decide)) (fun _ => ?_)
      exact zz_ev0 hk
  | false =>
    refine And.intro (fun (z : ¬ zb false = 0) => absurd rfl z) (fun _ => ?_)
    refine (And.intro (And.intro rfl (And.intro rfl (And.intro rfl (And.intro (by decide) (by decide))))) ?_)
    refine Exists.intro r (Exists.intro 0 (Exists.intro 9 (And.intro rfl (?_))))
    cases c2 : iR 0 9 r with
    | true =>
      refine And.intro (fun (z : zb true = 0) => absurd z (by decide)) (fun _ => ?_)
      refine (And.intro (And.intro rfl (And.intro rfl (And.intro rfl (And.intro (by decide) (by decide))))) ?_)
      refine Exists.intro m (Exists.intro 0 (Exists.intro 3 (And.intro rfl (?_))))
      cases c3 : iR 0 3 m with
      | true =>
        refine And.intro (fun _ => ?_) (fun (z : zb true = 0) => absurd z (by decide))
        rw [c1] at hk
        have hk := hk.2 (show ¬ (1 : Nat) = 0 by decide)
        refine (And.intro (And.intro rfl (And.intro rfl (And.intro rfl (And.intro (by decide) (by decide))))) ?_)
        refine Exists.intro f (Exists.intro R (Exists.intro ((th, tp, ln, aa, wr, pl), ta, ((td, le, ge, re, lg, ne), (nn, nk, nr, nx), su, (wa, ot, fm, tz)), (rk, mr, un, bg, bf), kd, im) (Exists.intro true (Exists.intro false (Exists.intro false (And.intro rfl (And.intro rfl (?_))))))))
        refine And.intro (fun (z : zb true = 0) => absurd z (by decide)) (fun _ => ?_)
        exact zz_ev0 hk
      | false =>
        refine And.intro (fun (z : ¬ zb false = 0) => absurd rfl z) (fun _ => ?_)
        rw [c1] at hk
        have hk := hk.2 (show ¬ (1 : Nat) = 0 by decide)
        refine (And.intro (And.intro rfl (And.intro rfl (And.intro rfl (And.intro (by decide) (by decide))))) ?_)
        refine Exists.intro f (Exists.intro R (Exists.intro ((th, tp, ln, aa, wr, pl), ta, ((td, le, ge, re, lg, ne), (nn, nk, nr, nx), su, (wa, ot, fm, tz)), (rk, mr, un, bg, bf), kd, im) (Exists.intro true (Exists.intro true (Exists.intro false (And.intro rfl (And.intro rfl (?_))))))))
        refine And.intro (fun (z : zb true = 0) => absurd z (by decide)) (fun _ => ?_)
        exact zz_ev0 hk
    | false =>
      refine And.intro (fun _ => ?_) (fun (z : ¬ zb false = 0) => absurd rfl z)
      rw [c1] at hk
      have hk := hk.2 (show ¬ (1 : Nat) = 0 by decide)
      refine (And.intro (And.intro rfl (And.intro rfl (And.intro rfl (And.intro (by decide) (by decide))))) ?_)
      refine Exists.intro f (Exists.intro R (Exists.intro ((th, tp, ln, aa, wr, pl), ta, ((td, le, ge, re, lg, ne), (nn, nk, nr, nx), su, (wa, ot, fm, tz)), (rk, mr, un, bg, bf), kd, im) (Exists.intro true (Exists.intro true (Exists.intro false (And.intro rfl (And.intro rfl (?_))))))))
      refine And.intro (fun (z : zb true = 0) => absurd z (by decide)) (fun _ => ?_)
      exact zz_ev0 hk
theorem recv_Mo_person : ∀ As ws k x, pt_Mo_person As ws k x → ∃ q As' fs, As = .ref q :: As' ∧ ws[q]? = some (.inr (7, fs)) := by
  rintro As ws k x ⟨f, R, t, p, r, m, rfl, rfl, hk⟩
  exact ⟨_, _, _, rfl, rfl⟩
def pt_Mo_skill : zz_PT := fun As ws k _ => ∃ (f : Nat → va_E) (R : List va_E) (t : qM) (p s h : Int32), As = [.ref 46, .int p, .int s, .int h] ∧ ws = gW f t R ∧ kz (oSkill p s h) (k none (gW f (uTh t (nI (oSkill p s h))) R)) (k none (gW f (uTh (mSkill t p.toNatClampNeg s.toNatClampNeg h) 0) R))
set_option maxHeartbeats 4000000 in
set_option maxRecDepth 100000 in
theorem m_Mo_skill (l : Launch) : zz_M zz_CL l y_Mo_skill (Cond.code y_Mo_skill c_Mo_skill 4 none :: zz_big) (zz_rm 3 62 1 6) (4, false, 0, 0, pt_Mo_skill) := by
  refine zz_M_of (HOST := "CrewRules") (L := [(1, 143, (1, false, 0, 0, pt_Mo_isPerson)), (1, 87, (3, false, 0, 0, pt_Mo_between)), (1, 146, (1, false, 0, 0, pt_Mo_isHour)), (0, 94, (4, false, 0, 0, pt_Mo_throwing))]) (sw := sw_Mo_skill) (pg := pg_Mo_skill) (th := th_Mo_skill) (ini := false) (by decide +kernel) zz_static (fun h => nomatch h) (by decide) (by decide) ok_Mo_skill (zz_cons (zz_ev_S (m_Mo_isPerson l) yw_Mo_isPerson ys_Mo_isPerson lk_Mo_143 ⟨rfl, rfl, by decide, by decide⟩) (zz_cons (zz_ev_S (m_Mo_between l) yw_Mo_between ys_Mo_between lk_Mo_87 ⟨rfl, rfl, by decide, by decide⟩) (zz_cons (zz_ev_S (m_Mo_isHour l) yw_Mo_isHour ys_Mo_isHour lk_Mo_146 ⟨rfl, rfl, by decide, by decide⟩) (zz_cons (zz_ev_V (m_Mo_throwing l) yw_Mo_throwing yv_Mo_throwing lk_Mo_94 ⟨rfl, rfl, by decide, by decide⟩ (ci := 7) rfl recv_Mo_throwing) zz_nil)))) (fun pc E h => (nomatch h)) (zz_VC0 80 ?_)
  rintro As ws k x ⟨f, R, ⟨⟨th, tp, ln, aa, wr, pl⟩, ta, ⟨⟨td, le, ge, re, lg, ne⟩, ⟨nn, nk, nr, nx⟩, su, ⟨wa, ot, fm, tz⟩⟩, ⟨rk, mr, un, bg, bf⟩, kd, im⟩, p, s, h, rfl, rfl, hk⟩
  unfold oSkill at hk
  try dsimp only at hk
  refine ⟨Nat.le_of_ble_eq_true rfl, ?_⟩
  refine (And.intro (And.intro rfl (And.intro rfl (And.intro rfl (And.intro (by decide) (by decide))))) ?_)
  refine Exists.intro p (And.intro rfl (?_))
  cases c1 : iR 0 49 p with
  | true =>
    refine And.intro (fun (z : zb true = 0) => absurd z (by decide)) (fun _ => ?_)
    refine (And.intro (And.intro rfl (And.intro rfl (And.intro rfl (And.intro (by decide) (by decide))))) ?_)
    refine Exists.intro s (Exists.intro 0 (Exists.intro 9 (And.intro rfl (?_))))
    cases c2 : iR 0 9 s with
    | true =>
      refine And.intro (fun _ => ?_) (fun (z : zb true = 0) => absurd z (by decide))
      refine (And.intro (And.intro rfl (And.intro rfl (And.intro rfl (And.intro (by decide) (by decide))))) ?_)
      refine Exists.intro h (And.intro rfl (?_))
      cases c3 : iR 0 99999 h with
      | true =>
        refine And.intro (fun _ => ?_) (fun (z : zb true = 0) => absurd z (by decide))
        obtain ⟨p, hp, rfl⟩ := iR_n (hi := 49) (by decide) c1
        obtain ⟨s, hs, rfl⟩ := iR_n (hi := 9) (by decide) c2
        rw [c1, c2, c3] at hk
        have hk := hk.1 rfl
        rw [nI_clamp (by omega), nI_clamp (by omega)] at hk
        have e1 : (10 : Int32) * nI p + nI s = nI (10 * p + s) := by
          show nI 10 * nI p + nI s = _
          rw [pk_mul, nI_add]
        have e2 : (nI (10 * p + s)).toNatClampNeg = 10 * p + s := nI_clamp (by omega)
        have i1 : vp_in ((10 : Int32) * nI p + nI s) 500 := by rw [e1]; exact zn_in (by omega) (by decide)
        have e3 : 10 * p + s = ((10 : Int32) * nI p + nI s).toNatClampNeg := by rw [e1, e2]
        unfold mSkill at hk
        rw [e3] at hk
        refine (And.intro (And.intro rfl (And.intro rfl (And.intro rfl (And.intro (by decide) (by decide))))) ?_)
        refine Exists.intro f (Exists.intro R (Exists.intro ((th, tp, ln, aa, wr, pl), ta, ((td, le, ge, re, lg, ne), (nn, nk, nr, nx), su, (wa, ot, fm, tz)), (rk, mr, un, bg, bf), kd, im) (Exists.intro false (Exists.intro false (Exists.intro false (And.intro rfl (And.intro rfl (?_))))))))
        refine And.intro (fun _ => ?_) (fun (z : ¬ zb false = 0) => absurd rfl z)
        exact And.intro i1 (zz_ev0 hk)
      | false =>
        refine And.intro (fun (z : ¬ zb false = 0) => absurd rfl z) (fun _ => ?_)
        rw [c1, c2, c3] at hk
        have hk := hk.2 (show ¬ (2 : Nat) = 0 by decide)
        refine (And.intro (And.intro rfl (And.intro rfl (And.intro rfl (And.intro (by decide) (by decide))))) ?_)
        refine Exists.intro f (Exists.intro R (Exists.intro ((th, tp, ln, aa, wr, pl), ta, ((td, le, ge, re, lg, ne), (nn, nk, nr, nx), su, (wa, ot, fm, tz)), (rk, mr, un, bg, bf), kd, im) (Exists.intro false (Exists.intro true (Exists.intro false (And.intro rfl (And.intro rfl (?_))))))))
        refine And.intro (fun (z : zb true = 0) => absurd z (by decide)) (fun _ => ?_)
        exact zz_ev0 hk
    | false =>
      refine And.intro (fun (z : ¬ zb false = 0) => absurd rfl z) (fun _ => ?_)
      refine (And.intro (And.intro rfl (And.intro rfl (And.intro rfl (And.intro (by decide) (by decide))))) ?_)
      refine Exists.intro h (And.intro rfl (?_))
      cases c3 : iR 0 99999 h with
      | true =>
        refine And.intro (fun _ => ?_) (fun (z : zb true = 0) => absurd z (by decide))
        rw [c1, c2] at hk
        have hk := hk.2 (show ¬ (1 : Nat) = 0 by decide)
        refine (And.intro (And.intro rfl (And.intro rfl (And.intro rfl (And.intro (by decide) (by decide))))) ?_)
        refine Exists.intro f (Exists.intro R (Exists.intro ((th, tp, ln, aa, wr, pl), ta, ((td, le, ge, re, lg, ne), (nn, nk, nr, nx), su, (wa, ot, fm, tz)), (rk, mr, un, bg, bf), kd, im) (Exists.intro true (Exists.intro false (Exists.intro false (And.intro rfl (And.intro rfl (?_))))))))
        refine And.intro (fun (z : zb true = 0) => absurd z (by decide)) (fun _ => ?_)
        exact zz_ev0 hk
      | false =>
        refine And.intro (fun (z : ¬ zb false = 0) => absurd rfl z) (fun _ => ?_)
        rw [c1, c2] at hk
        have hk := hk.2 (show ¬ (1 : Nat) = 0 by decide)
        refine (And.intro (And.intro rfl (And.intro rfl (And.intro rfl (And.intro (by decide) (by decide))))) ?_)
        refine Exists.intro f (Exists.intro R (Exists.intro ((th, tp, ln, aa, wr, pl), ta, ((td, le, ge, re, lg, ne), (nn, nk, nr, nx), su, (wa, ot, fm, tz)), (rk, mr, un, bg, bf), kd, im) (Exists.intro true (Exists.intro true (Exists.intro false (And.intro rfl (And.intro rfl (?_))))))))
        refine And.intro (fun (z : zb true = 0) => absurd z (by decide)) (fun _ => ?_)
        exact zz_ev0 hk
  | false =>
    refine And.intro (fun _ => ?_) (fun (z : ¬ zb false = 0) => absurd rfl z)
    refine (And.intro (And.intro rfl (And.intro rfl (And.intro rfl (And.intro (by decide) (by decide))))) ?_)
    refine Exists.intro h (And.intro rfl (?_))
    cases c3 : iR 0 99999 h with
    | true =>
      refine And.intro (fun _ => ?_) (fun (z : zb true = 0) => absurd z (by decide))
      rw [c1] at hk
      have hk := hk.2 (show ¬ (1 : Nat) = 0 by decide)
      refine (And.intro (And.intro rfl (And.intro rfl (And.intro rfl (And.intro (by decide) (by decide))))) ?_)
      refine Exists.intro f (Exists.intro R (Exists.intro ((th, tp, ln, aa, wr, pl), ta, ((td, le, ge, re, lg, ne), (nn, nk, nr, nx), su, (wa, ot, fm, tz)), (rk, mr, un, bg, bf), kd, im) (Exists.intro true (Exists.intro false (Exists.intro false (And.intro rfl (And.intro rfl (?_))))))))
      refine And.intro (fun (z : zb true = 0) => absurd z (by decide)) (fun _ => ?_)
      exact zz_ev0 hk
    | false =>
      refine And.intro (fun (z : ¬ zb false = 0) => absurd rfl z) (fun _ => ?_)
      rw [c1] at hk
      have hk := hk.2 (show ¬ (1 : Nat) = 0 by decide)
      refine (And.intro (And.intro rfl (And.intro rfl (And.intro rfl (And.intro (by decide) (by decide))))) ?_)
      refine Exists.intro f (Exists.intro R (Exists.intro ((th, tp, ln, aa, wr, pl), ta, ((td, le, ge, re, lg, ne), (nn, nk, nr, nx), su, (wa, ot, fm, tz)), (rk, mr, un, bg, bf), kd, im) (Exists.intro true (Exists.intro true (Exists.intro false (And.intro rfl (And.intro rfl (?_))))))))
      refine And.intro (fun (z : zb true = 0) => absurd z (by decide)) (fun _ => ?_)
      exact zz_ev0 hk
theorem recv_Mo_skill : ∀ As ws k x, pt_Mo_skill As ws k x → ∃ q As' fs, As = .ref q :: As' ∧ ws[q]? = some (.inr (7, fs)) := by
  rintro As ws k x ⟨f, R, t, p, s, h, rfl, rfl, hk⟩
  exact ⟨_, _, _, rfl, rfl⟩
def pt_Mo_duty : zz_PT := fun As ws k _ => ∃ (f : Nat → va_E) (R : List va_E) (t : qM) (p b e : Int32), As = [.ref 46, .int p, .int b, .int e] ∧ ws = gW f t R ∧ kz (oDuty p b e) (k none (gW f (uTh t (nI (oDuty p b e))) R)) (k none (gW f (uTh (mDuty t p.toNatClampNeg b e) 0) R))
set_option maxHeartbeats 4000000 in
set_option maxRecDepth 100000 in
theorem m_Mo_duty (l : Launch) : zz_M zz_CL l y_Mo_duty (Cond.code y_Mo_duty c_Mo_duty 5 none :: zz_big) (zz_rm 3 62 1 6) (4, false, 0, 0, pt_Mo_duty) := by
  refine zz_M_of (HOST := "CrewRules") (L := [(1, 87, (3, false, 0, 0, pt_Mo_between)), (1, 143, (1, false, 0, 0, pt_Mo_isPerson)), (0, 94, (4, false, 0, 0, pt_Mo_throwing))]) (sw := sw_Mo_duty) (pg := pg_Mo_duty) (th := th_Mo_duty) (ini := false) (by decide +kernel) zz_static (fun h => nomatch h) (by decide) (by decide) ok_Mo_duty (zz_cons (zz_ev_S (m_Mo_between l) yw_Mo_between ys_Mo_between lk_Mo_87 ⟨rfl, rfl, by decide, by decide⟩) (zz_cons (zz_ev_S (m_Mo_isPerson l) yw_Mo_isPerson ys_Mo_isPerson lk_Mo_143 ⟨rfl, rfl, by decide, by decide⟩) (zz_cons (zz_ev_V (m_Mo_throwing l) yw_Mo_throwing yv_Mo_throwing lk_Mo_94 ⟨rfl, rfl, by decide, by decide⟩ (ci := 7) rfl recv_Mo_throwing) zz_nil))) (fun pc E h => (nomatch h)) (zz_VC0 80 ?_)
  rintro As ws k x ⟨f, R, ⟨⟨th, tp, ln, aa, wr, pl⟩, ta, ⟨⟨td, le, ge, re, lg, ne⟩, ⟨nn, nk, nr, nx⟩, su, ⟨wa, ot, fm, tz⟩⟩, ⟨rk, mr, un, bg, bf⟩, kd, im⟩, p, b, e, rfl, rfl, hk⟩
  unfold oDuty at hk
  try dsimp only at hk
  refine ⟨Nat.le_of_ble_eq_true rfl, ?_⟩
  refine (And.intro (And.intro rfl (And.intro rfl (And.intro rfl (And.intro (by decide) (by decide))))) ?_)
  refine Exists.intro b (Exists.intro (-1) (Exists.intro 99999 (And.intro rfl (?_))))
  cases c1 : iR (-1) 99999 b with
  | true =>
    refine And.intro (fun (z : zb true = 0) => absurd z (by decide)) (fun _ => ?_)
    refine (And.intro (And.intro rfl (And.intro rfl (And.intro rfl (And.intro (by decide) (by decide))))) ?_)
    refine Exists.intro e (Exists.intro (-1) (Exists.intro 99999 (And.intro rfl (?_))))
    cases c2 : iR (-1) 99999 e with
    | true =>
      refine And.intro (fun (z : zb true = 0) => absurd z (by decide)) (fun _ => ?_)
      refine And.intro (fun (d1 : b < 0) => ?_) (fun (d1 : ¬ b < 0) => ?_)
      · have d1 : decide (0 ≤ b) = false := decide_eq_false (fun z => by rw [zn_le] at z; rw [zn_lt] at d1; omega)
        refine (And.intro (And.intro rfl (And.intro rfl (And.intro rfl (And.intro (by decide) (by decide))))) ?_)
        refine Exists.intro p (And.intro rfl (?_))
        cases c9 : iR 0 49 p with
        | true =>
          refine And.intro (fun _ => ?_) (fun (z : zb true = 0) => absurd z (by decide))
          obtain ⟨p, hp, rfl⟩ := iR_n (hi := 49) (by decide) c9
          rw [c9, c1, c2, d1] at hk
          have hk := hk.1 rfl
          have i1 : vp_in (nI p) 50 := zn_in (by omega) (by decide)
          refine (And.intro (And.intro rfl (And.intro rfl (And.intro rfl (And.intro (by decide) (by decide))))) ?_)
          refine Exists.intro f (Exists.intro R (Exists.intro ((th, tp, ln, aa, wr, pl), ta, ((td, le, ge, re, lg, ne), (nn, nk, nr, nx), su, (wa, ot, fm, tz)), (rk, mr, un, bg, bf), kd, im) (Exists.intro false (Exists.intro false (Exists.intro false (And.intro rfl (And.intro rfl (?_))))))))
          refine And.intro (fun _ => ?_) (fun (z : ¬ zb false = 0) => absurd rfl z)
          exact And.intro i1 (And.intro i1 (zz_ev0 hk))
        | false =>
          refine And.intro (fun (z : ¬ zb false = 0) => absurd rfl z) (fun _ => ?_)
          rw [c9] at hk
          have hk := hk.2 (show ¬ (1 : Nat) = 0 by decide)
          refine (And.intro (And.intro rfl (And.intro rfl (And.intro rfl (And.intro (by decide) (by decide))))) ?_)
          refine Exists.intro f (Exists.intro R (Exists.intro ((th, tp, ln, aa, wr, pl), ta, ((td, le, ge, re, lg, ne), (nn, nk, nr, nx), su, (wa, ot, fm, tz)), (rk, mr, un, bg, bf), kd, im) (Exists.intro true (Exists.intro false (Exists.intro false (And.intro rfl (And.intro rfl (?_))))))))
          refine And.intro (fun (z : zb true = 0) => absurd z (by decide)) (fun _ => ?_)
          exact zz_ev0 hk
      have d1 : decide (0 ≤ b) = true := decide_eq_true (zn_ge.mp d1)
      refine And.intro (fun (d2 : e < 0) => ?_) (fun (d2 : ¬ e < 0) => ?_)
      · have d2 : decide (0 ≤ e) = false := decide_eq_false (fun z => by rw [zn_le] at z; rw [zn_lt] at d2; omega)
        refine (And.intro (And.intro rfl (And.intro rfl (And.intro rfl (And.intro (by decide) (by decide))))) ?_)
        refine Exists.intro p (And.intro rfl (?_))
        cases c9 : iR 0 49 p with
        | true =>
          refine And.intro (fun _ => ?_) (fun (z : zb true = 0) => absurd z (by decide))
          obtain ⟨p, hp, rfl⟩ := iR_n (hi := 49) (by decide) c9
          rw [c9, c1, c2, d1, d2] at hk
          have hk := hk.1 rfl
          have i1 : vp_in (nI p) 50 := zn_in (by omega) (by decide)
          refine (And.intro (And.intro rfl (And.intro rfl (And.intro rfl (And.intro (by decide) (by decide))))) ?_)
          refine Exists.intro f (Exists.intro R (Exists.intro ((th, tp, ln, aa, wr, pl), ta, ((td, le, ge, re, lg, ne), (nn, nk, nr, nx), su, (wa, ot, fm, tz)), (rk, mr, un, bg, bf), kd, im) (Exists.intro false (Exists.intro false (Exists.intro false (And.intro rfl (And.intro rfl (?_))))))))
          refine And.intro (fun _ => ?_) (fun (z : ¬ zb false = 0) => absurd rfl z)
          exact And.intro i1 (And.intro i1 (zz_ev0 hk))
        | false =>
          refine And.intro (fun (z : ¬ zb false = 0) => absurd rfl z) (fun _ => ?_)
          rw [c9] at hk
          have hk := hk.2 (show ¬ (1 : Nat) = 0 by decide)
          refine (And.intro (And.intro rfl (And.intro rfl (And.intro rfl (And.intro (by decide) (by decide))))) ?_)
          refine Exists.intro f (Exists.intro R (Exists.intro ((th, tp, ln, aa, wr, pl), ta, ((td, le, ge, re, lg, ne), (nn, nk, nr, nx), su, (wa, ot, fm, tz)), (rk, mr, un, bg, bf), kd, im) (Exists.intro true (Exists.intro false (Exists.intro false (And.intro rfl (And.intro rfl (?_))))))))
          refine And.intro (fun (z : zb true = 0) => absurd z (by decide)) (fun _ => ?_)
          exact zz_ev0 hk
      have d2 : decide (0 ≤ e) = true := decide_eq_true (zn_ge.mp d2)
      refine And.intro (fun (d3 : e ≤ b) => ?_) (fun (d3 : ¬ e ≤ b) => ?_)
      · have d3 : decide (b < e) = false := decide_eq_false (zn_ge.mpr d3)
        refine (And.intro (And.intro rfl (And.intro rfl (And.intro rfl (And.intro (by decide) (by decide))))) ?_)
        refine Exists.intro p (And.intro rfl (?_))
        cases c9 : iR 0 49 p with
        | true =>
          refine And.intro (fun _ => ?_) (fun (z : zb true = 0) => absurd z (by decide))
          obtain ⟨p, hp, rfl⟩ := iR_n (hi := 49) (by decide) c9
          rw [c9, c1, c2, d1, d2, d3] at hk
          have hk := hk.1 rfl
          have i1 : vp_in (nI p) 50 := zn_in (by omega) (by decide)
          refine (And.intro (And.intro rfl (And.intro rfl (And.intro rfl (And.intro (by decide) (by decide))))) ?_)
          refine Exists.intro f (Exists.intro R (Exists.intro ((th, tp, ln, aa, wr, pl), ta, ((td, le, ge, re, lg, ne), (nn, nk, nr, nx), su, (wa, ot, fm, tz)), (rk, mr, un, bg, bf), kd, im) (Exists.intro false (Exists.intro false (Exists.intro false (And.intro rfl (And.intro rfl (?_))))))))
          refine And.intro (fun _ => ?_) (fun (z : ¬ zb false = 0) => absurd rfl z)
          exact And.intro i1 (And.intro i1 (zz_ev0 hk))
        | false =>
          refine And.intro (fun (z : ¬ zb false = 0) => absurd rfl z) (fun _ => ?_)
          rw [c9] at hk
          have hk := hk.2 (show ¬ (1 : Nat) = 0 by decide)
          refine (And.intro (And.intro rfl (And.intro rfl (And.intro rfl (And.intro (by decide) (by decide))))) ?_)
          refine Exists.intro f (Exists.intro R (Exists.intro ((th, tp, ln, aa, wr, pl), ta, ((td, le, ge, re, lg, ne), (nn, nk, nr, nx), su, (wa, ot, fm, tz)), (rk, mr, un, bg, bf), kd, im) (Exists.intro true (Exists.intro false (Exists.intro false (And.intro rfl (And.intro rfl (?_))))))))
          refine And.intro (fun (z : zb true = 0) => absurd z (by decide)) (fun _ => ?_)
          exact zz_ev0 hk
      · have d3 : decide (b < e) = true := decide_eq_true (zn_gt.mp d3)
        refine (And.intro (And.intro rfl (And.intro rfl (And.intro rfl (And.intro (by decide) (by decide))))) ?_)
        refine Exists.intro p (And.intro rfl (?_))
        cases c9 : iR 0 49 p with
        | true =>
          refine And.intro (fun _ => ?_) (fun (z : zb true = 0) => absurd z (by decide))
          rw [c9, c1, c2, d1, d2, d3] at hk
          have hk := hk.2 (show ¬ (2 : Nat) = 0 by decide)
          refine (And.intro (And.intro rfl (And.intro rfl (And.intro rfl (And.intro (by decide) (by decide))))) ?_)
          refine Exists.intro f (Exists.intro R (Exists.intro ((th, tp, ln, aa, wr, pl), ta, ((td, le, ge, re, lg, ne), (nn, nk, nr, nx), su, (wa, ot, fm, tz)), (rk, mr, un, bg, bf), kd, im) (Exists.intro false (Exists.intro true (Exists.intro false (And.intro rfl (And.intro rfl (?_))))))))
          refine And.intro (fun (z : zb true = 0) => absurd z (by decide)) (fun _ => ?_)
          exact zz_ev0 hk
        | false =>
          refine And.intro (fun (z : ¬ zb false = 0) => absurd rfl z) (fun _ => ?_)
          rw [c9] at hk
          have hk := hk.2 (show ¬ (1 : Nat) = 0 by decide)
          refine (And.intro (And.intro rfl (And.intro rfl (And.intro rfl (And.intro (by decide) (by decide))))) ?_)
          refine Exists.intro f (Exists.intro R (Exists.intro ((th, tp, ln, aa, wr, pl), ta, ((td, le, ge, re, lg, ne), (nn, nk, nr, nx), su, (wa, ot, fm, tz)), (rk, mr, un, bg, bf), kd, im) (Exists.intro true (Exists.intro true (Exists.intro false (And.intro rfl (And.intro rfl (?_))))))))
          refine And.intro (fun (z : zb true = 0) => absurd z (by decide)) (fun _ => ?_)
          exact zz_ev0 hk
    | false =>
      refine And.intro (fun _ => ?_) (fun (z : ¬ zb false = 0) => absurd rfl z)
      refine (And.intro (And.intro rfl (And.intro rfl (And.intro rfl (And.intro (by decide) (by decide))))) ?_)
      refine Exists.intro p (And.intro rfl (?_))
      cases c9 : iR 0 49 p with
      | true =>
        refine And.intro (fun _ => ?_) (fun (z : zb true = 0) => absurd z (by decide))
        rw [c9, c1, c2] at hk
        have hk := hk.2 (show ¬ (2 : Nat) = 0 by decide)
        refine (And.intro (And.intro rfl (And.intro rfl (And.intro rfl (And.intro (by decide) (by decide))))) ?_)
        refine Exists.intro f (Exists.intro R (Exists.intro ((th, tp, ln, aa, wr, pl), ta, ((td, le, ge, re, lg, ne), (nn, nk, nr, nx), su, (wa, ot, fm, tz)), (rk, mr, un, bg, bf), kd, im) (Exists.intro false (Exists.intro true (Exists.intro false (And.intro rfl (And.intro rfl (?_))))))))
        refine And.intro (fun (z : zb true = 0) => absurd z (by decide)) (fun _ => ?_)
        exact zz_ev0 hk
      | false =>
        refine And.intro (fun (z : ¬ zb false = 0) => absurd rfl z) (fun _ => ?_)
        rw [c9] at hk
        have hk := hk.2 (show ¬ (1 : Nat) = 0 by decide)
        refine (And.intro (And.intro rfl (And.intro rfl (And.intro rfl (And.intro (by decide) (by decide))))) ?_)
        refine Exists.intro f (Exists.intro R (Exists.intro ((th, tp, ln, aa, wr, pl), ta, ((td, le, ge, re, lg, ne), (nn, nk, nr, nx), su, (wa, ot, fm, tz)), (rk, mr, un, bg, bf), kd, im) (Exists.intro true (Exists.intro true (Exists.intro false (And.intro rfl (And.intro rfl (?_))))))))
        refine And.intro (fun (z : zb true = 0) => absurd z (by decide)) (fun _ => ?_)
        exact zz_ev0 hk
  | false =>
    refine And.intro (fun _ => ?_) (fun (z : ¬ zb false = 0) => absurd rfl z)
    refine (And.intro (And.intro rfl (And.intro rfl (And.intro rfl (And.intro (by decide) (by decide))))) ?_)
    refine Exists.intro p (And.intro rfl (?_))
    cases c9 : iR 0 49 p with
    | true =>
      refine And.intro (fun _ => ?_) (fun (z : zb true = 0) => absurd z (by decide))
      rw [c9, c1] at hk
      have hk := hk.2 (show ¬ (2 : Nat) = 0 by decide)
      refine (And.intro (And.intro rfl (And.intro rfl (And.intro rfl (And.intro (by decide) (by decide))))) ?_)
      refine Exists.intro f (Exists.intro R (Exists.intro ((th, tp, ln, aa, wr, pl), ta, ((td, le, ge, re, lg, ne), (nn, nk, nr, nx), su, (wa, ot, fm, tz)), (rk, mr, un, bg, bf), kd, im) (Exists.intro false (Exists.intro true (Exists.intro false (And.intro rfl (And.intro rfl (?_))))))))
      refine And.intro (fun (z : zb true = 0) => absurd z (by decide)) (fun _ => ?_)
      exact zz_ev0 hk
    | false =>
      refine And.intro (fun (z : ¬ zb false = 0) => absurd rfl z) (fun _ => ?_)
      rw [c9] at hk
      have hk := hk.2 (show ¬ (1 : Nat) = 0 by decide)
      refine (And.intro (And.intro rfl (And.intro rfl (And.intro rfl (And.intro (by decide) (by decide))))) ?_)
      refine Exists.intro f (Exists.intro R (Exists.intro ((th, tp, ln, aa, wr, pl), ta, ((td, le, ge, re, lg, ne), (nn, nk, nr, nx), su, (wa, ot, fm, tz)), (rk, mr, un, bg, bf), kd, im) (Exists.intro true (Exists.intro true (Exists.intro false (And.intro rfl (And.intro rfl (?_))))))))
      refine And.intro (fun (z : zb true = 0) => absurd z (by decide)) (fun _ => ?_)
      exact zz_ev0 hk
theorem recv_Mo_duty : ∀ As ws k x, pt_Mo_duty As ws k x → ∃ q As' fs, As = .ref q :: As' ∧ ws[q]? = some (.inr (7, fs)) := by
  rintro As ws k x ⟨f, R, t, p, b, e, rfl, rfl, hk⟩
  exact ⟨_, _, _, rfl, rfl⟩
def pt_Mo_kind : zz_PT := fun As ws k _ => ∃ (f : Nat → va_E) (R : List va_E) (t : qM) (c j : Int32), As = [.ref 46, .int c, .int j] ∧ ws = gW f t R ∧ kz (oKind c j) (k none (gW f (uTh t (nI (oKind c j))) R)) (k none (gW f (uTh (mKind t c.toNatClampNeg j) 0) R))
set_option maxHeartbeats 4000000 in
set_option maxRecDepth 100000 in
theorem m_Mo_kind (l : Launch) : zz_M zz_CL l y_Mo_kind (Cond.code y_Mo_kind c_Mo_kind 3 none :: zz_big) (zz_rm 3 62 1 6) (3, false, 0, 0, pt_Mo_kind) := by
  refine zz_M_of (HOST := "CrewRules") (L := [(1, 149, (1, false, 0, 0, pt_Mo_isCrew)), (1, 87, (3, false, 0, 0, pt_Mo_between)), (0, 94, (4, false, 0, 0, pt_Mo_throwing))]) (sw := sw_Mo_kind) (pg := pg_Mo_kind) (th := th_Mo_kind) (ini := false) (by decide +kernel) zz_static (fun h => nomatch h) (by decide) (by decide) ok_Mo_kind (zz_cons (zz_ev_S (m_Mo_isCrew l) yw_Mo_isCrew ys_Mo_isCrew lk_Mo_149 ⟨rfl, rfl, by decide, by decide⟩) (zz_cons (zz_ev_S (m_Mo_between l) yw_Mo_between ys_Mo_between lk_Mo_87 ⟨rfl, rfl, by decide, by decide⟩) (zz_cons (zz_ev_V (m_Mo_throwing l) yw_Mo_throwing yv_Mo_throwing lk_Mo_94 ⟨rfl, rfl, by decide, by decide⟩ (ci := 7) rfl recv_Mo_throwing) zz_nil))) (fun pc E h => (nomatch h)) (zz_VC0 80 ?_)
  rintro As ws k x ⟨f, R, ⟨⟨th, tp, ln, aa, wr, pl⟩, ta, ⟨⟨td, le, ge, re, lg, ne⟩, ⟨nn, nk, nr, nx⟩, su, ⟨wa, ot, fm, tz⟩⟩, ⟨rk, mr, un, bg, bf⟩, kd, im⟩, c, j, rfl, rfl, hk⟩
  unfold oKind at hk
  try dsimp only at hk
  refine ⟨Nat.le_of_ble_eq_true rfl, ?_⟩
  refine (And.intro (And.intro rfl (And.intro rfl (And.intro rfl (And.intro (by decide) (by decide))))) ?_)
  refine Exists.intro c (And.intro rfl (?_))
  cases c1 : iR 0 19 c with
  | true =>
    refine And.intro (fun _ => ?_) (fun (z : zb true = 0) => absurd z (by decide))
    refine (And.intro (And.intro rfl (And.intro rfl (And.intro rfl (And.intro (by decide) (by decide))))) ?_)
    refine Exists.intro j (Exists.intro 1 (Exists.intro 9 (And.intro rfl (?_))))
    cases c2 : iR 1 9 j with
    | true =>
      refine And.intro (fun _ => ?_) (fun (z : zb true = 0) => absurd z (by decide))
      obtain ⟨c, hc, rfl⟩ := iR_n (hi := 19) (by decide) c1
      rw [c1, c2] at hk
      have hk := hk.1 rfl
      have i1 : vp_in (nI c) 20 := zn_in (by omega) (by decide)
      refine (And.intro (And.intro rfl (And.intro rfl (And.intro rfl (And.intro (by decide) (by decide))))) ?_)
      refine Exists.intro f (Exists.intro R (Exists.intro ((th, tp, ln, aa, wr, pl), ta, ((td, le, ge, re, lg, ne), (nn, nk, nr, nx), su, (wa, ot, fm, tz)), (rk, mr, un, bg, bf), kd, im) (Exists.intro false (Exists.intro false (Exists.intro false (And.intro rfl (And.intro rfl (?_))))))))
      refine And.intro (fun _ => ?_) (fun (z : ¬ zb false = 0) => absurd rfl z)
      exact And.intro i1 (zz_ev0 hk)
    | false =>
      refine And.intro (fun (z : ¬ zb false = 0) => absurd rfl z) (fun _ => ?_)
      rw [c1, c2] at hk
      have hk := hk.2 (show ¬ (2 : Nat) = 0 by decide)
      refine (And.intro (And.intro rfl (And.intro rfl (And.intro rfl (And.intro (by decide) (by decide))))) ?_)
      refine Exists.intro f (Exists.intro R (Exists.intro ((th, tp, ln, aa, wr, pl), ta, ((td, le, ge, re, lg, ne), (nn, nk, nr, nx), su, (wa, ot, fm, tz)), (rk, mr, un, bg, bf), kd, im) (Exists.intro false (Exists.intro true (Exists.intro false (And.intro rfl (And.intro rfl (?_))))))))
      refine And.intro (fun (z : zb true = 0) => absurd z (by decide)) (fun _ => ?_)
      exact zz_ev0 hk
  | false =>
    refine And.intro (fun (z : ¬ zb false = 0) => absurd rfl z) (fun _ => ?_)
    refine (And.intro (And.intro rfl (And.intro rfl (And.intro rfl (And.intro (by decide) (by decide))))) ?_)
    refine Exists.intro j (Exists.intro 1 (Exists.intro 9 (And.intro rfl (?_))))
    cases c2 : iR 1 9 j with
    | true =>
      refine And.intro (fun _ => ?_) (fun (z : zb true = 0) => absurd z (by decide))
      rw [c1] at hk
      have hk := hk.2 (show ¬ (1 : Nat) = 0 by decide)
      refine (And.intro (And.intro rfl (And.intro rfl (And.intro rfl (And.intro (by decide) (by decide))))) ?_)
      refine Exists.intro f (Exists.intro R (Exists.intro ((th, tp, ln, aa, wr, pl), ta, ((td, le, ge, re, lg, ne), (nn, nk, nr, nx), su, (wa, ot, fm, tz)), (rk, mr, un, bg, bf), kd, im) (Exists.intro true (Exists.intro false (Exists.intro false (And.intro rfl (And.intro rfl (?_))))))))
      refine And.intro (fun (z : zb true = 0) => absurd z (by decide)) (fun _ => ?_)
      exact zz_ev0 hk
    | false =>
      refine And.intro (fun (z : ¬ zb false = 0) => absurd rfl z) (fun _ => ?_)
      rw [c1] at hk
      have hk := hk.2 (show ¬ (1 : Nat) = 0 by decide)
      refine (And.intro (And.intro rfl (And.intro rfl (And.intro rfl (And.intro (by decide) (by decide))))) ?_)
      refine Exists.intro f (Exists.intro R (Exists.intro ((th, tp, ln, aa, wr, pl), ta, ((td, le, ge, re, lg, ne), (nn, nk, nr, nx), su, (wa, ot, fm, tz)), (rk, mr, un, bg, bf), kd, im) (Exists.intro true (Exists.intro true (Exists.intro false (And.intro rfl (And.intro rfl (?_))))))))
      refine And.intro (fun (z : zb true = 0) => absurd z (by decide)) (fun _ => ?_)
      exact zz_ev0 hk
theorem recv_Mo_kind : ∀ As ws k x, pt_Mo_kind As ws k x → ∃ q As' fs, As = .ref q :: As' ∧ ws[q]? = some (.inr (7, fs)) := by
  rintro As ws k x ⟨f, R, t, c, j, rfl, rfl, hk⟩
  exact ⟨_, _, _, rfl, rfl⟩
def oJoinM (im : qA) (c p : Int32) : Nat := bif !iR 0 19 c || !iR 0 49 p then 1 else bif bi im c.toNatClampNeg p.toNatClampNeg then 2 else bif decide (nN (bi im c.toNatClampNeg) 50 = 12) then 3 else 0
def oLeaveM (im : qA) (c p : Int32) : Nat := bif !iR 0 19 c || !iR 0 49 p then 1 else bif !bi im c.toNatClampNeg p.toNatClampNeg then 2 else 0
def pt_Mo_join : zz_PT := fun As ws k _ => ∃ (f : Nat → va_E) (R : List va_E) (t : qM) (c p : Int32), As = [.ref 46, .int c, .int p] ∧ ws = gW f t R ∧ kz (oJoinM t.2.2.2.2.2 c p) (k (some (.int 0)) (gW f (uTh t (nI (oJoinM t.2.2.2.2.2 c p))) R)) (k (some (.int (nI (nN (bi (upd t.2.2.2.2.2 (50 * c.toNatClampNeg + p.toNatClampNeg) 1) c.toNatClampNeg) 50)))) (gW f (uTh (mIn t (50 * c.toNatClampNeg + p.toNatClampNeg) 1) 0) R))
def pt_Mo_leave : zz_PT := fun As ws k _ => ∃ (f : Nat → va_E) (R : List va_E) (t : qM) (c p : Int32), As = [.ref 46, .int c, .int p] ∧ ws = gW f t R ∧ kz (oLeaveM t.2.2.2.2.2 c p) (k (some (.int 0)) (gW f (uTh t (nI (oLeaveM t.2.2.2.2.2 c p))) R)) (k (some (.int (nI (nN (bi (upd t.2.2.2.2.2 (50 * c.toNatClampNeg + p.toNatClampNeg) 0) c.toNatClampNeg) 50)))) (gW f (uTh (mIn t (50 * c.toNatClampNeg + p.toNatClampNeg) 0) 0) R))
set_option maxHeartbeats 4000000 in
set_option maxRecDepth 100000 in
theorem m_Mo_join (l : Launch) : zz_M zz_CL l y_Mo_join (Cond.code y_Mo_join c_Mo_join 5 (some .int) :: zz_big) (zz_rm 3 62 1 6) (3, false, 0, 0, pt_Mo_join) := by
  refine zz_M_of (HOST := "CrewRules") (L := [(1, 149, (1, false, 0, 0, pt_Mo_isCrew)), (1, 143, (1, false, 0, 0, pt_Mo_isPerson)), (0, 152, (2, false, 0, 0, pt_Mo_sizeOf)), (0, 94, (4, false, 0, 0, pt_Mo_throwing))]) (sw := sw_Mo_join) (pg := pg_Mo_join) (th := th_Mo_join) (ini := false) (by decide +kernel) zz_static (fun h => nomatch h) (by decide) (by decide) ok_Mo_join (zz_cons (zz_ev_S (m_Mo_isCrew l) yw_Mo_isCrew ys_Mo_isCrew lk_Mo_149 ⟨rfl, rfl, by decide, by decide⟩) (zz_cons (zz_ev_S (m_Mo_isPerson l) yw_Mo_isPerson ys_Mo_isPerson lk_Mo_143 ⟨rfl, rfl, by decide, by decide⟩) (zz_cons (zz_ev_V (m_Mo_sizeOf l) yw_Mo_sizeOf yv_Mo_sizeOf lk_Mo_152 ⟨rfl, rfl, by decide, by decide⟩ (ci := 7) rfl recv_Mo_sizeOf) (zz_cons (zz_ev_V (m_Mo_throwing l) yw_Mo_throwing yv_Mo_throwing lk_Mo_94 ⟨rfl, rfl, by decide, by decide⟩ (ci := 7) rfl recv_Mo_throwing) zz_nil)))) (fun pc E h => (nomatch h)) (zz_VC0 100 ?_)
  rintro As ws k x ⟨f, R, ⟨⟨th, tp, ln, aa, wr, pl⟩, ta, ⟨⟨td, le, ge, re, lg, ne⟩, ⟨nn, nk, nr, nx⟩, su, ⟨wa, ot, fm, tz⟩⟩, ⟨rk, mr, un, bg, bf⟩, kd, im⟩, c, p, rfl, rfl, hk⟩
  unfold oJoinM at hk
  try dsimp only at hk
  refine ⟨Nat.le_of_ble_eq_true rfl, ?_⟩
  refine (And.intro (And.intro rfl (And.intro rfl (And.intro rfl (And.intro (by decide) (by decide))))) ?_)
  refine Exists.intro c (And.intro rfl (?_))
  cases c1 : iR 0 19 c with
  | true =>
    refine And.intro (fun (z : zb true = 0) => absurd z (by decide)) (fun _ => ?_)
    refine (And.intro (And.intro rfl (And.intro rfl (And.intro rfl (And.intro (by decide) (by decide))))) ?_)
    refine Exists.intro p (And.intro rfl (?_))
    cases c2 : iR 0 49 p with
    | true =>
      refine And.intro (fun _ => ?_) (fun (z : zb true = 0) => absurd z (by decide))
      obtain ⟨c, hc, rfl⟩ := iR_n (hi := 19) (by decide) c1
      obtain ⟨p, hp, rfl⟩ := iR_n (hi := 49) (by decide) c2
      have hc : c < 20 := by omega
      have hp : p < 50 := by omega
      rw [c1, c2, nI_clamp (show c < 2 ^ 31 by omega), nI_clamp (show p < 2 ^ 31 by omega)] at hk
      refine And.intro (fun (z : ¬ zb false = 0) => absurd rfl z) (fun _ => ?_)
      refine And.intro (fun _ => ?_) (fun (z : ¬ zb false = 0) => absurd rfl z)
      have e1 : (50 : Int32) * nI c + nI p = nI (50 * c + p) := by
        show nI 50 * nI c + nI p = _
        rw [pk_mul, nI_add]
      have e2 : (nI (50 * c + p)).toNatClampNeg = 50 * c + p := nI_clamp (by omega)
      have i1 : vp_in ((50 : Int32) * nI c + nI p) 1000 := by rw [e1]; exact zn_in (by omega) (by decide)
      refine And.intro i1 ?_
      refine And.intro (fun (d : im ((50 : Int32) * nI c + nI p).toNatClampNeg = 0) => ?_) (fun (d : ¬ im ((50 : Int32) * nI c + nI p).toNatClampNeg = 0) => ?_)
      · rw [e1, e2] at d
        have d : bi im c p = false := by unfold bi; rw [decide_eq_true d]; rfl
        refine And.intro (fun (z : ¬ zb false = 0) => absurd rfl z) (fun _ => ?_)
        refine (And.intro (And.intro rfl (And.intro rfl (And.intro rfl (And.intro (by decide) (by decide))))) ?_)
        refine Exists.intro f (Exists.intro R (Exists.intro ((th, tp, ln, aa, wr, pl), ta, ((td, le, ge, re, lg, ne), (nn, nk, nr, nx), su, (wa, ot, fm, tz)), (rk, mr, un, bg, bf), kd, im) (Exists.intro c (And.intro hc (And.intro rfl (And.intro rfl (?_)))))))
        refine And.intro (fun (d7 : ¬ nI (nN (bi im c) 50) = 12) => ?_) (fun (d7 : nI (nN (bi im c) 50) = 12) => ?_)
        · skip
          have d7 : decide (nN (bi im c) 50 = 12) = false := decide_eq_false (fun z => d7 (by rw [z]; rfl))
          rw [d, d7] at hk
          have hk := hk.1 rfl
          unfold mIn at hk
          dsimp only at hk
          rw [show 50 * c + p = ((50 : Int32) * nI c + nI p).toNatClampNeg by rw [e1, e2]] at hk
          refine (And.intro (And.intro rfl (And.intro rfl (And.intro rfl (And.intro (by decide) (by decide))))) ?_)
          refine Exists.intro f (Exists.intro R (Exists.intro ((th, tp, ln, aa, wr, pl), ta, ((td, le, ge, re, lg, ne), (nn, nk, nr, nx), su, (wa, ot, fm, tz)), (rk, mr, un, bg, bf), kd, im) (Exists.intro false (Exists.intro false (Exists.intro false (And.intro rfl (And.intro rfl (?_))))))))
          refine And.intro (fun _ => ?_) (fun (z : ¬ zb false = 0) => absurd rfl z)
          refine And.intro i1 ?_
          refine (And.intro (And.intro rfl (And.intro rfl (And.intro rfl (And.intro (by decide) (by decide))))) ?_)
          refine Exists.intro f (Exists.intro R (Exists.intro (((nI 0), tp, ln, aa, wr, pl), ta, ((td, le, ge, re, lg, ne), (nn, nk, nr, nx), su, (wa, ot, fm, tz)), (rk, mr, un, bg, bf), kd, (upd im ((50 : Int32) * nI c + nI p).toNatClampNeg 1)) (Exists.intro c (And.intro hc (And.intro rfl (And.intro rfl (?_)))))))
          exact zz_e0 hk
        · skip
          have d7 : decide (nN (bi im c) 50 = 12) = true := decide_eq_true (nI_inj9 (v := 12) (by have := nN_le (bi im c) 50; omega) (by decide) d7)
          rw [d, d7] at hk
          have hk := hk.2 (show ¬ (3 : Nat) = 0 by decide)
          refine (And.intro (And.intro rfl (And.intro rfl (And.intro rfl (And.intro (by decide) (by decide))))) ?_)
          refine Exists.intro f (Exists.intro R (Exists.intro ((th, tp, ln, aa, wr, pl), ta, ((td, le, ge, re, lg, ne), (nn, nk, nr, nx), su, (wa, ot, fm, tz)), (rk, mr, un, bg, bf), kd, im) (Exists.intro false (Exists.intro false (Exists.intro true (And.intro rfl (And.intro rfl (?_))))))))
          refine And.intro (fun (z : zb true = 0) => absurd z (by decide)) (fun _ => ?_)
          exact zz_e0 hk
      · rw [e1, e2] at d
        have d : bi im c p = true := by unfold bi; rw [decide_eq_false d]; rfl
        refine And.intro (fun (z : ¬ zb false = 0) => absurd rfl z) (fun _ => ?_)
        refine (And.intro (And.intro rfl (And.intro rfl (And.intro rfl (And.intro (by decide) (by decide))))) ?_)
        refine Exists.intro f (Exists.intro R (Exists.intro ((th, tp, ln, aa, wr, pl), ta, ((td, le, ge, re, lg, ne), (nn, nk, nr, nx), su, (wa, ot, fm, tz)), (rk, mr, un, bg, bf), kd, im) (Exists.intro c (And.intro hc (And.intro rfl (And.intro rfl (?_)))))))
        refine And.intro (fun (d7 : ¬ nI (nN (bi im c) 50) = 12) => ?_) (fun (d7 : nI (nN (bi im c) 50) = 12) => ?_)
        · skip
          rw [d] at hk
          have hk := hk.2 (show ¬ (2 : Nat) = 0 by decide)
          refine (And.intro (And.intro rfl (And.intro rfl (And.intro rfl (And.intro (by decide) (by decide))))) ?_)
          refine Exists.intro f (Exists.intro R (Exists.intro ((th, tp, ln, aa, wr, pl), ta, ((td, le, ge, re, lg, ne), (nn, nk, nr, nx), su, (wa, ot, fm, tz)), (rk, mr, un, bg, bf), kd, im) (Exists.intro false (Exists.intro true (Exists.intro false (And.intro rfl (And.intro rfl (?_))))))))
          refine And.intro (fun (z : zb true = 0) => absurd z (by decide)) (fun _ => ?_)
          exact zz_e0 hk
        · skip
          rw [d] at hk
          have hk := hk.2 (show ¬ (2 : Nat) = 0 by decide)
          refine (And.intro (And.intro rfl (And.intro rfl (And.intro rfl (And.intro (by decide) (by decide))))) ?_)
          refine Exists.intro f (Exists.intro R (Exists.intro ((th, tp, ln, aa, wr, pl), ta, ((td, le, ge, re, lg, ne), (nn, nk, nr, nx), su, (wa, ot, fm, tz)), (rk, mr, un, bg, bf), kd, im) (Exists.intro false (Exists.intro true (Exists.intro true (And.intro rfl (And.intro rfl (?_))))))))
          refine And.intro (fun (z : zb true = 0) => absurd z (by decide)) (fun _ => ?_)
          exact zz_e0 hk
    | false =>
      refine And.intro (fun (z : ¬ zb false = 0) => absurd rfl z) (fun _ => ?_)
      rw [c1, c2] at hk
      refine And.intro (fun _ => ?_) (fun (z : zb true = 0) => absurd z (by decide))
      refine And.intro (fun _ => ?_) (fun (z : zb true = 0) => absurd z (by decide))
      have hk := hk.2 (show ¬ (1 : Nat) = 0 by decide)
      refine (And.intro (And.intro rfl (And.intro rfl (And.intro rfl (And.intro (by decide) (by decide))))) ?_)
      refine Exists.intro f (Exists.intro R (Exists.intro ((th, tp, ln, aa, wr, pl), ta, ((td, le, ge, re, lg, ne), (nn, nk, nr, nx), su, (wa, ot, fm, tz)), (rk, mr, un, bg, bf), kd, im) (Exists.intro true (Exists.intro false (Exists.intro false (And.intro rfl (And.intro rfl (?_))))))))
      refine And.intro (fun (z : zb true = 0) => absurd z (by decide)) (fun _ => ?_)
      exact zz_e0 hk
  | false =>
    refine And.intro (fun _ => ?_) (fun (z : ¬ zb false = 0) => absurd rfl z)
    rw [c1] at hk
    refine And.intro (fun _ => ?_) (fun (z : zb true = 0) => absurd z (by decide))
    refine And.intro (fun _ => ?_) (fun (z : zb true = 0) => absurd z (by decide))
    have hk := hk.2 (show ¬ (1 : Nat) = 0 by decide)
    refine (And.intro (And.intro rfl (And.intro rfl (And.intro rfl (And.intro (by decide) (by decide))))) ?_)
    refine Exists.intro f (Exists.intro R (Exists.intro ((th, tp, ln, aa, wr, pl), ta, ((td, le, ge, re, lg, ne), (nn, nk, nr, nx), su, (wa, ot, fm, tz)), (rk, mr, un, bg, bf), kd, im) (Exists.intro true (Exists.intro false (Exists.intro false (And.intro rfl (And.intro rfl (?_))))))))
    refine And.intro (fun (z : zb true = 0) => absurd z (by decide)) (fun _ => ?_)
    exact zz_e0 hk
theorem recv_Mo_join : ∀ As ws k x, pt_Mo_join As ws k x → ∃ q As' fs, As = .ref q :: As' ∧ ws[q]? = some (.inr (7, fs)) := by
  rintro As ws k x ⟨f, R, t, c, p, rfl, rfl, hk⟩
  exact ⟨_, _, _, rfl, rfl⟩
set_option maxHeartbeats 4000000 in
set_option maxRecDepth 100000 in
theorem m_Mo_leave (l : Launch) : zz_M zz_CL l y_Mo_leave (Cond.code y_Mo_leave c_Mo_leave 4 (some .int) :: zz_big) (zz_rm 3 62 1 6) (3, false, 0, 0, pt_Mo_leave) := by
  refine zz_M_of (HOST := "CrewRules") (L := [(1, 149, (1, false, 0, 0, pt_Mo_isCrew)), (1, 143, (1, false, 0, 0, pt_Mo_isPerson)), (0, 94, (4, false, 0, 0, pt_Mo_throwing)), (0, 152, (2, false, 0, 0, pt_Mo_sizeOf))]) (sw := sw_Mo_leave) (pg := pg_Mo_leave) (th := th_Mo_leave) (ini := false) (by decide +kernel) zz_static (fun h => nomatch h) (by decide) (by decide) ok_Mo_leave (zz_cons (zz_ev_S (m_Mo_isCrew l) yw_Mo_isCrew ys_Mo_isCrew lk_Mo_149 ⟨rfl, rfl, by decide, by decide⟩) (zz_cons (zz_ev_S (m_Mo_isPerson l) yw_Mo_isPerson ys_Mo_isPerson lk_Mo_143 ⟨rfl, rfl, by decide, by decide⟩) (zz_cons (zz_ev_V (m_Mo_throwing l) yw_Mo_throwing yv_Mo_throwing lk_Mo_94 ⟨rfl, rfl, by decide, by decide⟩ (ci := 7) rfl recv_Mo_throwing) (zz_cons (zz_ev_V (m_Mo_sizeOf l) yw_Mo_sizeOf yv_Mo_sizeOf lk_Mo_152 ⟨rfl, rfl, by decide, by decide⟩ (ci := 7) rfl recv_Mo_sizeOf) zz_nil)))) (fun pc E h => (nomatch h)) (zz_VC0 100 ?_)
  rintro As ws k x ⟨f, R, ⟨⟨th, tp, ln, aa, wr, pl⟩, ta, ⟨⟨td, le, ge, re, lg, ne⟩, ⟨nn, nk, nr, nx⟩, su, ⟨wa, ot, fm, tz⟩⟩, ⟨rk, mr, un, bg, bf⟩, kd, im⟩, c, p, rfl, rfl, hk⟩
  unfold oLeaveM at hk
  try dsimp only at hk
  refine ⟨Nat.le_of_ble_eq_true rfl, ?_⟩
  refine (And.intro (And.intro rfl (And.intro rfl (And.intro rfl (And.intro (by decide) (by decide))))) ?_)
  refine Exists.intro c (And.intro rfl (?_))
  cases c1 : iR 0 19 c with
  | true =>
    refine And.intro (fun (z : zb true = 0) => absurd z (by decide)) (fun _ => ?_)
    refine (And.intro (And.intro rfl (And.intro rfl (And.intro rfl (And.intro (by decide) (by decide))))) ?_)
    refine Exists.intro p (And.intro rfl (?_))
    cases c2 : iR 0 49 p with
    | true =>
      refine And.intro (fun _ => ?_) (fun (z : zb true = 0) => absurd z (by decide))
      obtain ⟨c, hc, rfl⟩ := iR_n (hi := 19) (by decide) c1
      obtain ⟨p, hp, rfl⟩ := iR_n (hi := 49) (by decide) c2
      have hc : c < 20 := by omega
      have hp : p < 50 := by omega
      rw [c1, c2, nI_clamp (show c < 2 ^ 31 by omega), nI_clamp (show p < 2 ^ 31 by omega)] at hk
      refine And.intro (fun (z : ¬ zb false = 0) => absurd rfl z) (fun _ => ?_)
      refine And.intro (fun _ => ?_) (fun (z : ¬ zb false = 0) => absurd rfl z)
      have e1 : (50 : Int32) * nI c + nI p = nI (50 * c + p) := by
        show nI 50 * nI c + nI p = _
        rw [pk_mul, nI_add]
      have e2 : (nI (50 * c + p)).toNatClampNeg = 50 * c + p := nI_clamp (by omega)
      have i1 : vp_in ((50 : Int32) * nI c + nI p) 1000 := by rw [e1]; exact zn_in (by omega) (by decide)
      refine And.intro i1 ?_
      refine And.intro (fun (d : ¬ im ((50 : Int32) * nI c + nI p).toNatClampNeg = 0) => ?_) (fun (d : im ((50 : Int32) * nI c + nI p).toNatClampNeg = 0) => ?_)
      · rw [e1, e2] at d
        have d : bi im c p = true := by unfold bi; rw [decide_eq_false d]; rfl
        rw [d] at hk
        have hk := hk.1 rfl
        unfold mIn at hk
        dsimp only at hk
        rw [show 50 * c + p = ((50 : Int32) * nI c + nI p).toNatClampNeg by rw [e1, e2]] at hk
        refine (And.intro (And.intro rfl (And.intro rfl (And.intro rfl (And.intro (by decide) (by decide))))) ?_)
        refine Exists.intro f (Exists.intro R (Exists.intro ((th, tp, ln, aa, wr, pl), ta, ((td, le, ge, re, lg, ne), (nn, nk, nr, nx), su, (wa, ot, fm, tz)), (rk, mr, un, bg, bf), kd, im) (Exists.intro false (Exists.intro false (Exists.intro false (And.intro rfl (And.intro rfl (?_))))))))
        refine And.intro (fun _ => ?_) (fun (z : ¬ zb false = 0) => absurd rfl z)
        refine And.intro i1 ?_
        refine (And.intro (And.intro rfl (And.intro rfl (And.intro rfl (And.intro (by decide) (by decide))))) ?_)
        refine Exists.intro f (Exists.intro R (Exists.intro (((nI 0), tp, ln, aa, wr, pl), ta, ((td, le, ge, re, lg, ne), (nn, nk, nr, nx), su, (wa, ot, fm, tz)), (rk, mr, un, bg, bf), kd, (upd im ((50 : Int32) * nI c + nI p).toNatClampNeg 0)) (Exists.intro c (And.intro hc (And.intro rfl (And.intro rfl (?_)))))))
        exact zz_e0 hk
      · rw [e1, e2] at d
        have d : bi im c p = false := by unfold bi; rw [decide_eq_true d]; rfl
        rw [d] at hk
        have hk := hk.2 (show ¬ (2 : Nat) = 0 by decide)
        refine (And.intro (And.intro rfl (And.intro rfl (And.intro rfl (And.intro (by decide) (by decide))))) ?_)
        refine Exists.intro f (Exists.intro R (Exists.intro ((th, tp, ln, aa, wr, pl), ta, ((td, le, ge, re, lg, ne), (nn, nk, nr, nx), su, (wa, ot, fm, tz)), (rk, mr, un, bg, bf), kd, im) (Exists.intro false (Exists.intro true (Exists.intro false (And.intro rfl (And.intro rfl (?_))))))))
        refine And.intro (fun (z : zb true = 0) => absurd z (by decide)) (fun _ => ?_)
        exact zz_e0 hk
    | false =>
      refine And.intro (fun (z : ¬ zb false = 0) => absurd rfl z) (fun _ => ?_)
      rw [c1, c2] at hk
      refine And.intro (fun _ => ?_) (fun (z : zb true = 0) => absurd z (by decide))
      have hk := hk.2 (show ¬ (1 : Nat) = 0 by decide)
      refine (And.intro (And.intro rfl (And.intro rfl (And.intro rfl (And.intro (by decide) (by decide))))) ?_)
      refine Exists.intro f (Exists.intro R (Exists.intro ((th, tp, ln, aa, wr, pl), ta, ((td, le, ge, re, lg, ne), (nn, nk, nr, nx), su, (wa, ot, fm, tz)), (rk, mr, un, bg, bf), kd, im) (Exists.intro true (Exists.intro false (Exists.intro false (And.intro rfl (And.intro rfl (?_))))))))
      refine And.intro (fun (z : zb true = 0) => absurd z (by decide)) (fun _ => ?_)
      exact zz_e0 hk
  | false =>
    refine And.intro (fun _ => ?_) (fun (z : ¬ zb false = 0) => absurd rfl z)
    rw [c1] at hk
    refine And.intro (fun _ => ?_) (fun (z : zb true = 0) => absurd z (by decide))
    have hk := hk.2 (show ¬ (1 : Nat) = 0 by decide)
    refine (And.intro (And.intro rfl (And.intro rfl (And.intro rfl (And.intro (by decide) (by decide))))) ?_)
    refine Exists.intro f (Exists.intro R (Exists.intro ((th, tp, ln, aa, wr, pl), ta, ((td, le, ge, re, lg, ne), (nn, nk, nr, nx), su, (wa, ot, fm, tz)), (rk, mr, un, bg, bf), kd, im) (Exists.intro true (Exists.intro false (Exists.intro false (And.intro rfl (And.intro rfl (?_))))))))
    refine And.intro (fun (z : zb true = 0) => absurd z (by decide)) (fun _ => ?_)
    exact zz_e0 hk
theorem recv_Mo_leave : ∀ As ws k x, pt_Mo_leave As ws k x → ∃ q As' fs, As = .ref q :: As' ∧ ws[q]? = some (.inr (7, fs)) := by
  rintro As ws k x ⟨f, R, t, c, p, rfl, rfl, hk⟩
  exact ⟨_, _, _, rfl, rfl⟩
theorem sM_byte {w : Int64} {i : Nat} (hi : i < 8) : ((w >>> ((8 * nI i).toInt64 &&& 63)).toInt32 &&& 255) = nI (sB w i) := by
  rw [sb_s i hi, i255]
  congr 1
  unfold sB
  have e : (((w >>> Int64.ofNat (8 * i)).toInt32).toBitVec) = (w.toBitVec.sshiftRight (8 * i)).setWidth 32 := by
    show ((w.toBitVec.sshiftRight' ((BitVec.ofNat 64 (8 * i)).smod 64#64)).signExtend 32) = _
    rw [BitVec.signExtend_eq_setWidth_of_le _ (by decide)]
    congr 1
    unfold BitVec.sshiftRight'
    congr 1
    exact (show ∀ k, k < 8 → ((BitVec.ofNat 64 (8 * k)).smod 64#64).toNat = 8 * k by decide +kernel) i hi
  rw [e]
  apply Nat.eq_of_testBit_eq
  intro j
  rw [show (256 : Nat) = 2 ^ 8 by decide, Nat.testBit_mod_two_pow, Nat.testBit_mod_two_pow]
  by_cases hj : j < 8
  · rw [decide_eq_true hj, Bool.true_and, Bool.true_and, Nat.testBit_div_two_pow, BitVec.testBit_toNat, BitVec.testBit_toNat, BitVec.getLsbD_setWidth, BitVec.getLsbD_sshiftRight]
    rw [decide_eq_true (show j < 32 by omega), Bool.true_and, decide_eq_false (show ¬ 64 ≤ j by omega), if_pos (show 8 * i + j < 64 by omega), Nat.add_comm]
    rfl
  · rw [decide_eq_false hj]; rfl
def pt_Mo_sign : zz_PT := fun As ws k _ => ∃ (f : Nat → va_E) (R : List va_E) (t : qM) (n : Nat) (w : Int64) (m : Int32), t.1.2.1 = nI n ∧ n ≤ 300 ∧ As = [.ref 46, .long w, .int m] ∧ ws = gW f t R ∧ kz (oSign t.1.2.1 m) (k (some (.int 0)) (gW f (uTh t (nI (oSign t.1.2.1 m))) R)) (k (some (.int (nI (n + m.toNatClampNeg)))) (gW f (uTh (mTape t (sT w m.toNatClampNeg t.2.1 n) (nI (n + m.toNatClampNeg))) 0) R))
set_option maxHeartbeats 4000000 in
set_option maxRecDepth 100000 in
theorem m_Mo_sign (l : Launch) : zz_M zz_CL l y_Mo_sign (Cond.code y_Mo_sign c_Mo_sign 6 (some .int) :: zz_big) (zz_rm 2 43 1 6) (3, false, 0, 0, pt_Mo_sign) := by
  refine zz_M_of (HOST := "CrewRules") (L := [(1, 87, (3, false, 0, 0, pt_Mo_between)), (0, 94, (4, false, 0, 0, pt_Mo_throwing))]) (sw := sw_Mo_sign) (pg := pg_Mo_sign) (th := th_Mo_sign) (ini := false) (by decide +kernel) zz_static (fun h => nomatch h) (by decide) (by decide) ok_Mo_sign (zz_cons (zz_ev_S (m_Mo_between l) yw_Mo_between ys_Mo_between lk_Mo_87 ⟨rfl, rfl, by decide, by decide⟩) (zz_cons (zz_ev_V (m_Mo_throwing l) yw_Mo_throwing yv_Mo_throwing lk_Mo_94 ⟨rfl, rfl, by decide, by decide⟩ (ci := 7) rfl recv_Mo_throwing) zz_nil)) (fun pc E h => (nomatch h)) (zz_VC1 100 56 [true, true, true, true, true, true] rfl ?_)
  rintro As ws k x ⟨f, R, ⟨⟨th, tp, ln, aa, wr, pl⟩, ta, ⟨⟨td, le, ge, re, lg, ne⟩, ⟨nn, nk, nr, nx⟩, su, ⟨wa, ot, fm, tz⟩⟩, ⟨rk, mr, un, bg, bf⟩, kd, im⟩, n, w, m, h1, hn, rfl, rfl, hk⟩
  dsimp only at h1
  subst h1
  unfold oSign at hk
  try dsimp only at hk
  cases c1 : iR 1 8 m with
  | false =>
    rw [c1] at hk
    have hk := hk.2 (show ¬ (1 : Nat) = 0 by decide)
    refine ⟨Nat.le_of_ble_eq_true rfl, fun _ _ _ _ _ _ => False, fun _ _ _ _ _ _ h => h.elim, ?_⟩
    refine (And.intro (And.intro rfl (And.intro rfl (And.intro rfl (And.intro (by decide) (by decide))))) ?_)
    refine Exists.intro m (Exists.intro 1 (Exists.intro 8 (And.intro rfl (?_))))
    rw [c1]
    refine And.intro (fun (z : ¬ zb false = 0) => absurd rfl z) (fun _ => ?_)
    refine And.intro (fun _ => ?_) (fun (z : zb true = 0) => absurd z (by decide))
    refine (And.intro (And.intro rfl (And.intro rfl (And.intro rfl (And.intro (by decide) (by decide))))) ?_)
    refine Exists.intro f (Exists.intro R (Exists.intro ((th, (nI n), ln, aa, wr, pl), ta, ((td, le, ge, re, lg, ne), (nn, nk, nr, nx), su, (wa, ot, fm, tz)), (rk, mr, un, bg, bf), kd, im) (Exists.intro true (Exists.intro false (Exists.intro false (And.intro rfl (And.intro rfl (?_))))))))
    refine And.intro (fun (z : zb true = 0) => absurd z (by decide)) (fun _ => ?_)
    exact zz_e0 hk
  | true =>
    have e1 : (1 : Int32).toInt = 1 := by decide
    have e0 : (0 : Int32).toInt = 0 := by decide
    obtain ⟨q, hq, rfl⟩ := iR_n (hi := 8) (v := m) (by decide) (iR_t (by have := (iR_g c1).1; rw [zn_le, e1] at this; rw [zn_le, e0]; omega) (iR_g c1).2)
    rw [c1, nI_clamp (show q < 2 ^ 31 by omega)] at hk
    by_cases c3 : nI n + nI q ≤ 300
    · rw [decide_eq_false (p := 300 < nI n + nI q) (zn_ge.mpr c3)] at hk
      have hk := hk.1 rfl
      have c4 := c3
      rw [nI_add] at c4
      have hnq : n + q ≤ 300 := (nI_leI (b := 300) (by omega) (by decide)).mp c4
      refine ⟨Nat.le_of_ble_eq_true rfl, fun z ls st ws nc1 ns => ∃ (i l2 : Nat) (t2 : qA), i ≤ 8 ∧ z = i ∧ l2 + i ≤ 300 ∧ k (some (.int (nI (l2 + i)))) (gW f (((nI 0), (nI (l2 + i)), ln, aa, wr, pl), (sT w i t2 l2), ((td, le, ge, re, lg, ne), (nn, nk, nr, nx), su, (wa, ot, fm, tz)), (rk, mr, un, bg, bf), kd, im) R) ∧ ls = [some (.ref 46), some (.long w), none, some (.int (nI q)), some (.int 0), some (.int (nI i - 1))] ∧ st = [] ∧ ws = gW f (((nI 0), (nI l2), ln, aa, wr, pl), t2, ((td, le, ge, re, lg, ne), (nn, nk, nr, nx), su, (wa, ot, fm, tz)), (rk, mr, un, bg, bf), kd, im) R ∧ nc1 = 0 ∧ ns = 0, ?_, ?_⟩
      · rintro z ls st ws nc1 ns ⟨i, l2, t2, hi, rfl, hl, hk, rfl, rfl, rfl, rfl, rfl⟩
        cases z with
        | zero =>
          exact And.intro (fun _ => zz_e0 hk) (fun (c : ¬ nI 0 - 1 < 0) => absurd (by decide) c)
        | succ i =>
          have e : nI (i + 1) - 1 = nI i := nI_pr1 (by omega)
          refine And.intro (fun (c : nI (i + 1) - 1 < 0) => absurd c (by rw [e, zn_lt, nI_toInt (by omega), show (0 : Int32).toInt = 0 by decide]; omega)) (fun (c : ¬ nI (i + 1) - 1 < 0) => ?_)
          have hb := sM_byte (w := w) (i := i) (by omega)
          rw [← e] at hb
          refine And.intro (zn_in (show l2 < 300 by omega) (by decide)) ?_
          rw [hb]
          refine Exists.intro i (And.intro (Nat.lt_succ_self i) ⟨i, l2 + 1, upd t2 l2 (nI (sB w i)), by omega, rfl, by omega, ?_, ?_, rfl, ?_, rfl, rfl⟩)
          · rw [show l2 + 1 + i = l2 + (i + 1) by omega]; exact hk
          · show [some (Value.ref 46), some (Value.long w), none, some (Value.int (nI q)), some (Value.int 0), some (Value.int (nI (i + 1) - 1 + (-1)))] = _
            rw [e, Int32.sub_eq_add_neg]
          · rw [← nI_1 l2, show upd t2 l2 (nI (sB w i)) = upd t2 (nI l2).toNatClampNeg (nI (sB w i)) by rw [nI_clamp (by omega)]]
            rfl
      · skip
        refine (And.intro (And.intro rfl (And.intro rfl (And.intro rfl (And.intro (by decide) (by decide))))) ?_)
        refine Exists.intro (nI q) (Exists.intro 1 (Exists.intro 8 (And.intro rfl (?_))))
        rw [c1]
        refine And.intro (fun _ => ?_) (fun (z : zb true = 0) => absurd z (by decide))
        refine And.intro (fun (z : ¬ zb false = 0) => absurd rfl z) (fun _ => ?_)
        refine And.intro (fun _ => ?_) (fun (z : ¬ nI n + nI q ≤ 300) => absurd c3 z)
        refine (And.intro (And.intro rfl (And.intro rfl (And.intro rfl (And.intro (by decide) (by decide))))) ?_)
        refine Exists.intro f (Exists.intro R (Exists.intro ((th, (nI n), ln, aa, wr, pl), ta, ((td, le, ge, re, lg, ne), (nn, nk, nr, nx), su, (wa, ot, fm, tz)), (rk, mr, un, bg, bf), kd, im) (Exists.intro false (Exists.intro false (Exists.intro false (And.intro rfl (And.intro rfl (?_))))))))
        refine And.intro (fun _ => ?_) (fun (z : ¬ zb false = 0) => absurd rfl z)
        exact Exists.intro q (And.intro trivial ⟨q, n, ta, hq, rfl, hnq, hk, rfl, rfl, rfl, rfl, rfl⟩)
    · rw [decide_eq_true (p := 300 < nI n + nI q) (zn_gt.mp c3)] at hk
      have hk := hk.2 (show ¬ (2 : Nat) = 0 by decide)
      refine ⟨Nat.le_of_ble_eq_true rfl, fun _ _ _ _ _ _ => False, fun _ _ _ _ _ _ h => h.elim, ?_⟩
      refine (And.intro (And.intro rfl (And.intro rfl (And.intro rfl (And.intro (by decide) (by decide))))) ?_)
      refine Exists.intro (nI q) (Exists.intro 1 (Exists.intro 8 (And.intro rfl (?_))))
      rw [c1]
      refine And.intro (fun _ => ?_) (fun (z : zb true = 0) => absurd z (by decide))
      refine And.intro (fun (z : ¬ zb false = 0) => absurd rfl z) (fun _ => ?_)
      refine And.intro (fun (z : nI n + nI q ≤ 300) => absurd z c3) (fun _ => ?_)
      refine (And.intro (And.intro rfl (And.intro rfl (And.intro rfl (And.intro (by decide) (by decide))))) ?_)
      refine Exists.intro f (Exists.intro R (Exists.intro ((th, (nI n), ln, aa, wr, pl), ta, ((td, le, ge, re, lg, ne), (nn, nk, nr, nx), su, (wa, ot, fm, tz)), (rk, mr, un, bg, bf), kd, im) (Exists.intro false (Exists.intro true (Exists.intro false (And.intro rfl (And.intro rfl (?_))))))))
      refine And.intro (fun (z : zb true = 0) => absurd z (by decide)) (fun _ => ?_)
      exact zz_e0 hk
theorem recv_Mo_sign : ∀ As ws k x, pt_Mo_sign As ws k x → ∃ q As' fs, As = .ref q :: As' ∧ ws[q]? = some (.inr (7, fs)) := by
  rintro As ws k x ⟨f, R, t, n, w, m, h1, hn, rfl, rfl, hk⟩
  exact ⟨_, _, _, rfl, rfl⟩
