/-- is in two crews -/
def kW (im : qA) (c p : Nat) : Bool := bi im c p && decide (1 < kO im p)
/-- counts, and rested less -/
def kR (im : qA) (pp : qA × qA × qA × qA × qA) (c : Nat) (rs : Int32) (p : Nat) : Bool := kC im pp.2.1 c p && (!decide (pp.2.2.2.1 p < 0) && (!decide (pp.2.2.2.2 p < 0) && decide (pp.2.2.2.1 p - pp.2.2.2.2 p < rs)))
/-- counts, and is not fresh -/
def kZ (im : qA) (pp : qA × qA × qA × qA × qA) (c : Nat) (h lo : Int32) (p : Nat) : Bool := kC im pp.2.1 c p && (decide (pp.2.2.2.1 p < 0) || (decide (h < pp.2.2.2.1 p) || decide (lo < h - pp.2.2.2.1 p)))
/-- need i of rule j is not met -/
def kU (im : qA) (pp : qA × qA × qA × qA × qA) (H : qH) (c : Nat) (h : Int32) (j i : Nat) : Bool := decide (nI (kE im pp H (some c) (H.2.1.2.1 (6 * j + i)).toNatClampNeg (H.2.1.2.2.1 (6 * j + i)) h) < H.2.1.1 (6 * j + i)) || (!decide (H.2.1.2.2.2 (6 * j + i) = 0) && decide (H.2.1.1 (6 * j + i) < nI (kE im pp H (some c) (H.2.1.2.1 (6 * j + i)).toNatClampNeg (H.2.1.2.2.1 (6 * j + i)) h)))
def vF (o : Option Nat) : Int32 := match o with
  | none => 0
  | some i => 10 + nI i
def aVM (im : qA) (pp : qA × qA × qA × qA × qA) (H : qH) (c : Nat) (h : Int32) (j : Nat) : Int32 := if H.1.1 j = 0 then 1 else bif aN (kW im c) 50 then 2 else if nI (kN im pp.2.1 c) < H.1.2.1 j then 3 else if H.1.2.2.1 j < nI (kN im pp.2.1 c) then 4 else bif !decide (H.1.2.2.2.1 j < 0) && aN (kR im pp c (H.1.2.2.2.1 j)) 50 then 5 else bif !decide (H.1.2.2.2.2.1 j < 0) && aN (kZ im pp c h (H.1.2.2.2.2.1 j)) 50 then 6 else vF (fN (kU im pp H c h j) (H.1.2.2.2.2.2 j).toNatClampNeg)
theorem aVM_2 {im : qA} {pp : qA × qA × qA × qA × qA} {H : qH} {c : Nat} {h : Int32} {j : Nat} (h1 : ¬ H.1.1 j = 0) (h2 : aN (kW im c) 50 = true) : aVM im pp H c h j = 2 := by unfold aVM; rw [if_neg h1, h2]; rfl
theorem aVM_3 {im : qA} {pp : qA × qA × qA × qA × qA} {H : qH} {c : Nat} {h : Int32} {j : Nat} (h1 : ¬ H.1.1 j = 0) (h2 : aN (kW im c) 50 = false) (h3 : nI (kN im pp.2.1 c) < H.1.2.1 j) : aVM im pp H c h j = 3 := by unfold aVM; rw [if_neg h1, h2, if_pos h3]; rfl
theorem aVM_4 {im : qA} {pp : qA × qA × qA × qA × qA} {H : qH} {c : Nat} {h : Int32} {j : Nat} (h1 : ¬ H.1.1 j = 0) (h2 : aN (kW im c) 50 = false) (h3 : ¬ nI (kN im pp.2.1 c) < H.1.2.1 j) (h4 : H.1.2.2.1 j < nI (kN im pp.2.1 c)) : aVM im pp H c h j = 4 := by unfold aVM; rw [if_neg h1, h2, if_neg h3, if_pos h4]; rfl
theorem aVM_r {im : qA} {pp : qA × qA × qA × qA × qA} {H : qH} {c : Nat} {h : Int32} {j : Nat} (h1 : ¬ H.1.1 j = 0) (h2 : aN (kW im c) 50 = false) (h3 : ¬ nI (kN im pp.2.1 c) < H.1.2.1 j) (h4 : ¬ H.1.2.2.1 j < nI (kN im pp.2.1 c)) : aVM im pp H c h j = (bif !decide (H.1.2.2.2.1 j < 0) && aN (kR im pp c (H.1.2.2.2.1 j)) 50 then 5 else bif !decide (H.1.2.2.2.2.1 j < 0) && aN (kZ im pp c h (H.1.2.2.2.2.1 j)) 50 then 6 else vF (fN (kU im pp H c h j) (H.1.2.2.2.2.2 j).toNatClampNeg)) := by unfold aVM; rw [if_neg h1, h2, if_neg h3, if_neg h4]; rfl
theorem fN_s {f : Nat → Bool} {j m : Nat} (h : fN f j = none) (hf : f j = true) (hm : j < m) : fN f m = some j := by
  induction m with
  | zero => omega
  | succ m ih =>
    rcases Nat.lt_or_ge j m with q | q
    · unfold fN; rw [ih q]
    · have : m = j := by omega
      subst this
      unfold fN; rw [h, hf]; rfl
theorem fN_n {f : Nat → Bool} {j : Nat} (h : fN f j = none) (hf : f j = false) : fN f (j + 1) = none := by
  unfold fN; rw [h, hf]; rfl
def pt_Mo_verdict : zz_PT := fun As ws k _ => ∃ (f : Nat → va_E) (R : List va_E) (t : qM) (c h : Int32), wfM t.2.2.1 ∧ wfK t.2.2.2.2.1 ∧ As = [.ref 46, .int c, .int h] ∧ ws = gW f t R ∧ kz (oVerdict c h) (k (some (.int 0)) (gW f (uTh t (nI (oVerdict c h))) R)) (k (some (.int (aVM t.2.2.2.2.2 t.2.2.2.1 t.2.2.1 c.toNatClampNeg h (t.2.2.2.2.1 c.toNatClampNeg).toNatClampNeg))) (gW f (uTh t 0) R))
def iMo_verdict (f : Nat → va_E) (R : List va_E) (t : qM) (c n : Nat) (h : Int32) (a : Nat) : Nat → zz_Q := fun z ls st ws nc ns => ∃ (j : Nat), (match a with
    | 0 => j ≤ 50 ∧ z = 100 + 3 * (50 - j) + 2 ∧ ls = [some (.ref 46), some (.int (nI c)), some (.int h), some (.int (nI n)), some (.int (nI (kN t.2.2.2.2.2 t.2.2.2.1.2.1 c))), some (.int (zb (aN (kW t.2.2.2.2.2 c) j))), some (.int (zb (!aN (kR t.2.2.2.2.2 t.2.2.2.1 c (t.2.2.1.1.2.2.2.1 n)) j))), some (.int (zb (!aN (kZ t.2.2.2.2.2 t.2.2.2.1 c h (t.2.2.1.1.2.2.2.2.1 n)) j))), some (.int (nI j)), none, none]
    | 1 => j < 50 ∧ z = 100 + 3 * (50 - j) + 1 ∧ ls = [some (.ref 46), some (.int (nI c)), some (.int h), some (.int (nI n)), some (.int (nI (kN t.2.2.2.2.2 t.2.2.2.1.2.1 c))), some (.int (zb (aN (kW t.2.2.2.2.2 c) (j + 1)))), some (.int (zb (!aN (kR t.2.2.2.2.2 t.2.2.2.1 c (t.2.2.1.1.2.2.2.1 n)) j))), some (.int (zb (!aN (kZ t.2.2.2.2.2 t.2.2.2.1 c h (t.2.2.1.1.2.2.2.2.1 n)) j))), some (.int (nI j)), none, none]
    | 2 => j < 50 ∧ kC t.2.2.2.2.2 t.2.2.2.1.2.1 c j = true ∧ z = 100 + 3 * (50 - j) ∧ ls = [some (.ref 46), some (.int (nI c)), some (.int h), some (.int (nI n)), some (.int (nI (kN t.2.2.2.2.2 t.2.2.2.1.2.1 c))), some (.int (zb (aN (kW t.2.2.2.2.2 c) (j + 1)))), some (.int (zb (!aN (kR t.2.2.2.2.2 t.2.2.2.1 c (t.2.2.1.1.2.2.2.1 n)) (j + 1)))), some (.int (zb (!aN (kZ t.2.2.2.2.2 t.2.2.2.1 c h (t.2.2.1.1.2.2.2.2.1 n)) j))), some (.int (nI j)), none, none]
    | _ => ∃ m, j ≤ m ∧ m ≤ 6 ∧ t.2.2.1.1.2.2.2.2.2 n = nI m ∧ fN (kU t.2.2.2.2.2 t.2.2.2.1 t.2.2.1 c h n) j = none ∧ aVM t.2.2.2.2.2 t.2.2.2.1 t.2.2.1 c h n = vF (fN (kU t.2.2.2.2.2 t.2.2.2.1 t.2.2.1 c h n) m) ∧ z = m - j ∧ ls = [some (.ref 46), some (.int (nI c)), some (.int h), some (.int (nI n)), none, none, none, none, some (.int (nI j)), none, none]) ∧ st = [] ∧ ws = gW f t R ∧ nc = 0 ∧ ns = 0
set_option maxHeartbeats 4000000 in
set_option maxRecDepth 100000 in
theorem m_Mo_verdict (l : Launch) : zz_M zz_CL l y_Mo_verdict (Cond.code y_Mo_verdict c_Mo_verdict 11 (some .int) :: zz_big) (zz_rm 6 133 1 6) (3, false, 0, 0, pt_Mo_verdict) := by
  refine zz_M_of (HOST := "CrewRules") (L := [(1, 149, (1, false, 0, 0, pt_Mo_isCrew)), (1, 146, (1, false, 0, 0, pt_Mo_isHour)), (0, 94, (4, false, 0, 0, pt_Mo_throwing)), (0, 166, (2, false, 0, 0, pt_Mo_counting)), (0, 156, (2, false, 0, 0, pt_Mo_crewsOf)), (0, 169, (3, false, 0, 0, pt_Mo_doesCount)), (0, 178, (5, false, 0, 0, pt_Mo_servers))]) (sw := sw_Mo_verdict) (pg := pg_Mo_verdict) (th := th_Mo_verdict) (ini := false) (by decide +kernel) zz_static (fun h => nomatch h) (by decide) (by decide) ok_Mo_verdict (zz_cons (zz_ev_S (m_Mo_isCrew l) yw_Mo_isCrew ys_Mo_isCrew lk_Mo_149 ⟨rfl, rfl, by decide, by decide⟩) (zz_cons (zz_ev_S (m_Mo_isHour l) yw_Mo_isHour ys_Mo_isHour lk_Mo_146 ⟨rfl, rfl, by decide, by decide⟩) (zz_cons (zz_ev_V (m_Mo_throwing l) yw_Mo_throwing yv_Mo_throwing lk_Mo_94 ⟨rfl, rfl, by decide, by decide⟩ (ci := 7) rfl recv_Mo_throwing) (zz_cons (zz_ev_V (m_Mo_counting l) yw_Mo_counting yv_Mo_counting lk_Mo_166 ⟨rfl, rfl, by decide, by decide⟩ (ci := 7) rfl recv_Mo_counting) (zz_cons (zz_ev_V (m_Mo_crewsOf l) yw_Mo_crewsOf yv_Mo_crewsOf lk_Mo_156 ⟨rfl, rfl, by decide, by decide⟩ (ci := 7) rfl recv_Mo_crewsOf) (zz_cons (zz_ev_V (m_Mo_doesCount l) yw_Mo_doesCount yv_Mo_doesCount lk_Mo_169 ⟨rfl, rfl, by decide, by decide⟩ (ci := 7) rfl recv_Mo_doesCount) (zz_cons (zz_ev_V (m_Mo_servers l) yw_Mo_servers yv_Mo_servers lk_Mo_178 ⟨rfl, rfl, by decide, by decide⟩ (ci := 7) rfl recv_Mo_servers) zz_nil))))))) (fun pc E h => (nomatch h)) (zz_VCn 140 ?_)
  rintro As ws k x ⟨f, R, ⟨⟨th, tp, ln, aa, wr, pl⟩, ta, ⟨⟨td, le, ge, re, lg, ne⟩, ⟨nn, nk, nr, nx⟩, su, ⟨wa, ot, fm, tz⟩⟩, ⟨rk, mr, un, bg, bf⟩, kd, im⟩, c, h, hM, hK, rfl, rfl, hk⟩
  unfold oVerdict at hk
  dsimp only at hk hK
  cases c1 : iR 0 19 c with
  | false =>
    rw [c1] at hk
    have hk := hk.2 (show ¬ (1 : Nat) = 0 by decide)
    cases c2 : iR 0 99999 h with
    | false =>
      refine ⟨Nat.le_of_ble_eq_true rfl, [], zz_al0, ?_⟩
      refine (And.intro (And.intro rfl (And.intro rfl (And.intro rfl (And.intro (by decide) (by decide))))) ?_)
      refine Exists.intro c (And.intro rfl (?_))
      rw [c1]
      refine And.intro (fun (z : ¬ zb false = 0) => absurd rfl z) (fun _ => ?_)
      refine (And.intro (And.intro rfl (And.intro rfl (And.intro rfl (And.intro (by decide) (by decide))))) ?_)
      refine Exists.intro h (And.intro rfl (?_))
      rw [c2]
      refine And.intro (fun (z : ¬ zb false = 0) => absurd rfl z) (fun _ => ?_)
      refine (And.intro (And.intro rfl (And.intro rfl (And.intro rfl (And.intro (by decide) (by decide))))) ?_)
      refine Exists.intro f (Exists.intro R (Exists.intro ((th, tp, ln, aa, wr, pl), ta, ((td, le, ge, re, lg, ne), (nn, nk, nr, nx), su, (wa, ot, fm, tz)), (rk, mr, un, bg, bf), kd, im) (Exists.intro true (Exists.intro true (Exists.intro false (And.intro rfl (And.intro rfl (?_))))))))
      refine And.intro (fun (z : zb true = 0) => absurd z (by decide)) (fun _ => ?_)
      exact zz_e0 hk
    | true =>
      refine ⟨Nat.le_of_ble_eq_true rfl, [], zz_al0, ?_⟩
      refine (And.intro (And.intro rfl (And.intro rfl (And.intro rfl (And.intro (by decide) (by decide))))) ?_)
      refine Exists.intro c (And.intro rfl (?_))
      rw [c1]
      refine And.intro (fun (z : ¬ zb false = 0) => absurd rfl z) (fun _ => ?_)
      refine (And.intro (And.intro rfl (And.intro rfl (And.intro rfl (And.intro (by decide) (by decide))))) ?_)
      refine Exists.intro h (And.intro rfl (?_))
      rw [c2]
      refine And.intro (fun _ => ?_) (fun (z : zb true = 0) => absurd z (by decide))
      refine (And.intro (And.intro rfl (And.intro rfl (And.intro rfl (And.intro (by decide) (by decide))))) ?_)
      refine Exists.intro f (Exists.intro R (Exists.intro ((th, tp, ln, aa, wr, pl), ta, ((td, le, ge, re, lg, ne), (nn, nk, nr, nx), su, (wa, ot, fm, tz)), (rk, mr, un, bg, bf), kd, im) (Exists.intro true (Exists.intro false (Exists.intro false (And.intro rfl (And.intro rfl (?_))))))))
      refine And.intro (fun (z : zb true = 0) => absurd z (by decide)) (fun _ => ?_)
      exact zz_e0 hk
  | true =>
    cases c2 : iR 0 99999 h with
    | false =>
      rw [c1, c2] at hk
      have hk := hk.2 (show ¬ (2 : Nat) = 0 by decide)
      refine ⟨Nat.le_of_ble_eq_true rfl, [], zz_al0, ?_⟩
      refine (And.intro (And.intro rfl (And.intro rfl (And.intro rfl (And.intro (by decide) (by decide))))) ?_)
      refine Exists.intro c (And.intro rfl (?_))
      rw [c1]
      refine And.intro (fun _ => ?_) (fun (z : zb true = 0) => absurd z (by decide))
      refine (And.intro (And.intro rfl (And.intro rfl (And.intro rfl (And.intro (by decide) (by decide))))) ?_)
      refine Exists.intro h (And.intro rfl (?_))
      rw [c2]
      refine And.intro (fun (z : ¬ zb false = 0) => absurd rfl z) (fun _ => ?_)
      refine (And.intro (And.intro rfl (And.intro rfl (And.intro rfl (And.intro (by decide) (by decide))))) ?_)
      refine Exists.intro f (Exists.intro R (Exists.intro ((th, tp, ln, aa, wr, pl), ta, ((td, le, ge, re, lg, ne), (nn, nk, nr, nx), su, (wa, ot, fm, tz)), (rk, mr, un, bg, bf), kd, im) (Exists.intro false (Exists.intro true (Exists.intro false (And.intro rfl (And.intro rfl (?_))))))))
      refine And.intro (fun (z : zb true = 0) => absurd z (by decide)) (fun _ => ?_)
      exact zz_e0 hk
    | true =>
      obtain ⟨c, hc, rfl⟩ := iR_n (hi := 19) (by decide) c1
      have hc : c < 20 := by omega
      rw [c1, c2] at hk
      have hk := hk.1 rfl
      obtain ⟨n, hn1, hn, hkd⟩ := hK c hc
      have ec : (nI c).toNatClampNeg = c := nI_clamp (by omega)
      have en : (nI n).toNatClampNeg = n := nI_clamp (by omega)
      have ekd : kd (nI c).toNatClampNeg = nI n := by rw [ec, hkd]
      rw [ec, hkd, en] at hk
      have in1 : vp_in (nI n) 20 := zn_in (by omega) (by decide)
      by_cases hd : td n = 0
      · rw [show aVM im (rk, mr, un, bg, bf) ((td, le, ge, re, lg, ne), (nn, nk, nr, nx), su, (wa, ot, fm, tz)) c h n = 1 from if_pos hd] at hk
        refine ⟨Nat.le_of_ble_eq_true rfl, [], zz_al0, ?_⟩
        refine (And.intro (And.intro rfl (And.intro rfl (And.intro rfl (And.intro (by decide) (by decide))))) ?_)
        refine Exists.intro (nI c) (And.intro rfl (?_))
        rw [c1]
        refine And.intro (fun _ => ?_) (fun (z : zb true = 0) => absurd z (by decide))
        refine (And.intro (And.intro rfl (And.intro rfl (And.intro rfl (And.intro (by decide) (by decide))))) ?_)
        refine Exists.intro h (And.intro rfl (?_))
        rw [c2]
        refine And.intro (fun _ => ?_) (fun (z : zb true = 0) => absurd z (by decide))
        refine (And.intro (And.intro rfl (And.intro rfl (And.intro rfl (And.intro (by decide) (by decide))))) ?_)
        refine Exists.intro f (Exists.intro R (Exists.intro ((th, tp, ln, aa, wr, pl), ta, ((td, le, ge, re, lg, ne), (nn, nk, nr, nx), su, (wa, ot, fm, tz)), (rk, mr, un, bg, bf), kd, im) (Exists.intro false (Exists.intro false (Exists.intro false (And.intro rfl (And.intro rfl (?_))))))))
        refine And.intro (fun _ => ?_) (fun (z : ¬ zb false = 0) => absurd rfl z)
        refine And.intro (zn_in hc (by decide)) ?_
        rw [ekd]
        refine And.intro in1 ?_
        refine And.intro (fun (z : ¬ td (nI n).toNatClampNeg = 0) => absurd (by rw [en]; exact hd) z) (fun _ => ?_)
        exact zz_e0 hk
      · obtain ⟨m, hm, hm2, hsk⟩ := hM.2 n hn hd
        dsimp only at hm2 hsk
        refine ⟨Nat.le_of_ble_eq_true rfl, [(71, [true, true, true, true, true, true, true, true, true, false, false], iMo_verdict f R (((nI 0), tp, ln, aa, wr, pl), ta, ((td, le, ge, re, lg, ne), (nn, nk, nr, nx), su, (wa, ot, fm, tz)), (rk, mr, un, bg, bf), kd, im) c n h 0), (115, [true, true, true, true, true, true, true, true, true, false, false], iMo_verdict f R (((nI 0), tp, ln, aa, wr, pl), ta, ((td, le, ge, re, lg, ne), (nn, nk, nr, nx), su, (wa, ot, fm, tz)), (rk, mr, un, bg, bf), kd, im) c n h 1), (181, [true, true, true, true, true, true, true, true, true, false, false], iMo_verdict f R (((nI 0), tp, ln, aa, wr, pl), ta, ((td, le, ge, re, lg, ne), (nn, nk, nr, nx), su, (wa, ot, fm, tz)), (rk, mr, un, bg, bf), kd, im) c n h 2), (307, [true, true, true, true, false, false, false, false, true, false, false], iMo_verdict f R (((nI 0), tp, ln, aa, wr, pl), ta, ((td, le, ge, re, lg, ne), (nn, nk, nr, nx), su, (wa, ot, fm, tz)), (rk, mr, un, bg, bf), kd, im) c n h 3)], zz_al1 ⟨rfl, ?_⟩ (zz_al1 ⟨rfl, ?_⟩ (zz_al1 ⟨rfl, ?_⟩ (zz_al1 ⟨rfl, ?_⟩ zz_al0))), ?_⟩
        · skip
          rintro z ls st ws nc ns ⟨j, ⟨hj, rfl, rfl⟩, rfl, rfl, rfl, rfl⟩
          dsimp only
          refine And.intro (fun (c1 : 50 ≤ nI j) => ?_) (fun (c1 : ¬ 50 ≤ nI j) => ?_)
          · have : j = 50 := by
              have := (nI_leI (a := 50) (by decide) (by omega)).mp c1
              omega
            subst this
            cases hw : aN (kW im c) 50 with
            | true =>
              refine And.intro (fun (z : zb true = 0) => absurd z (by decide)) (fun _ => ?_)
              rw [aVM_2 (im := im) (pp := (rk, mr, un, bg, bf)) (H := ((td, le, ge, re, lg, ne), (nn, nk, nr, nx), su, (wa, ot, fm, tz))) (c := c) (h := h) (j := n) hd hw] at hk
              exact zz_e0 hk
            | false =>
              refine And.intro (fun _ => ?_) (fun (z : ¬ zb false = 0) => absurd rfl z)
              refine And.intro in1 ?_
              refine And.intro (fun (d3 : le (nI n).toNatClampNeg ≤ nI (kN im mr c)) => ?_) (fun (d3 : ¬ le (nI n).toNatClampNeg ≤ nI (kN im mr c)) => ?_)
              rotate_left
              · rw [en] at d3
                rw [aVM_3 (im := im) (pp := (rk, mr, un, bg, bf)) (H := ((td, le, ge, re, lg, ne), (nn, nk, nr, nx), su, (wa, ot, fm, tz))) (c := c) (h := h) (j := n) hd hw (zn_gt.mp d3)] at hk
                exact zz_e0 hk
              rw [en] at d3
              refine And.intro in1 ?_
              refine And.intro (fun (d4 : nI (kN im mr c) ≤ ge (nI n).toNatClampNeg) => ?_) (fun (d4 : ¬ nI (kN im mr c) ≤ ge (nI n).toNatClampNeg) => ?_)
              rotate_left
              · rw [en] at d4
                rw [aVM_4 (im := im) (pp := (rk, mr, un, bg, bf)) (H := ((td, le, ge, re, lg, ne), (nn, nk, nr, nx), su, (wa, ot, fm, tz))) (c := c) (h := h) (j := n) hd hw (zn_ge.mpr d3) (zn_gt.mp d4)] at hk
                exact zz_e0 hk
              rw [en] at d4
              have eV := aVM_r (im := im) (pp := (rk, mr, un, bg, bf)) (H := ((td, le, ge, re, lg, ne), (nn, nk, nr, nx), su, (wa, ot, fm, tz))) (c := c) (h := h) (j := n) hd hw (zn_ge.mpr d3) (zn_ge.mpr d4)
              dsimp only at eV
              rw [eV] at hk
              refine And.intro in1 ?_
              refine And.intro (fun (d5 : re (nI n).toNatClampNeg < 0) => ?_) (fun (d5 : ¬ re (nI n).toNatClampNeg < 0) => ?_)
              · rw [en] at d5
                rw [decide_eq_true d5] at hk eV
                try dsimp only [Bool.not_true, Bool.false_and, cond_false] at hk
                try dsimp only [Bool.not_true, Bool.false_and, cond_false] at eV
                refine And.intro in1 ?_
                refine And.intro (fun (d6 : lg (nI n).toNatClampNeg < 0) => ?_) (fun (d6 : ¬ lg (nI n).toNatClampNeg < 0) => ?_)
                · rw [en] at d6
                  rw [decide_eq_true d6] at hk eV
                  try dsimp only [Bool.not_true, Bool.false_and, cond_false] at hk
                  try dsimp only [Bool.not_true, Bool.false_and, cond_false] at eV
                  exact Exists.intro (m - 0) (And.intro (by show m - 0 < 100 + 3 * (50 - 50) + 2; omega) ⟨0, ⟨m, Nat.zero_le _, hm, hm2, rfl, (by rw [eV, hm2, nI_clamp (by omega)] <;> rfl), rfl, rfl⟩, rfl, rfl, rfl, rfl⟩)
                · rw [en] at d6
                  rw [decide_eq_false d6] at hk eV
                  try dsimp only [Bool.not_false, Bool.true_and] at hk
                  try dsimp only [Bool.not_false, Bool.true_and] at eV
                  cases hz : aN (kZ im (rk, mr, un, bg, bf) c h (lg n)) 50 with
                  | true =>
                    rw [hz] at hk
                    refine And.intro (fun (z : ¬ zb false = 0) => absurd rfl z) (fun _ => ?_)
                    exact zz_e0 hk
                  | false =>
                    rw [hz] at hk eV
                    try dsimp only [cond_false] at hk
                    try dsimp only [cond_false] at eV
                    refine And.intro (fun _ => ?_) (fun (z : zb true = 0) => absurd z (by decide))
                    exact Exists.intro (m - 0) (And.intro (by show m - 0 < 100 + 3 * (50 - 50) + 2; omega) ⟨0, ⟨m, Nat.zero_le _, hm, hm2, rfl, (by rw [eV, hm2, nI_clamp (by omega)] <;> rfl), rfl, rfl⟩, rfl, rfl, rfl, rfl⟩)
              · rw [en] at d5
                rw [decide_eq_false d5] at hk eV
                try dsimp only [Bool.not_false, Bool.true_and] at hk
                try dsimp only [Bool.not_false, Bool.true_and] at eV
                cases hr : aN (kR im (rk, mr, un, bg, bf) c (re n)) 50 with
                | true =>
                  rw [hr] at hk
                  refine And.intro (fun (z : ¬ zb false = 0) => absurd rfl z) (fun _ => ?_)
                  exact zz_e0 hk
                | false =>
                  rw [hr] at hk eV
                  try dsimp only [cond_false] at hk
                  try dsimp only [cond_false] at eV
                  refine And.intro (fun _ => ?_) (fun (z : zb true = 0) => absurd z (by decide))
                  refine And.intro in1 ?_
                  refine And.intro (fun (d6 : lg (nI n).toNatClampNeg < 0) => ?_) (fun (d6 : ¬ lg (nI n).toNatClampNeg < 0) => ?_)
                  · rw [en] at d6
                    rw [decide_eq_true d6] at hk eV
                    try dsimp only [Bool.not_true, Bool.false_and, cond_false] at hk
                    try dsimp only [Bool.not_true, Bool.false_and, cond_false] at eV
                    exact Exists.intro (m - 0) (And.intro (by show m - 0 < 100 + 3 * (50 - 50) + 2; omega) ⟨0, ⟨m, Nat.zero_le _, hm, hm2, rfl, (by rw [eV, hm2, nI_clamp (by omega)] <;> rfl), rfl, rfl⟩, rfl, rfl, rfl, rfl⟩)
                  · rw [en] at d6
                    rw [decide_eq_false d6] at hk eV
                    try dsimp only [Bool.not_false, Bool.true_and] at hk
                    try dsimp only [Bool.not_false, Bool.true_and] at eV
                    cases hz : aN (kZ im (rk, mr, un, bg, bf) c h (lg n)) 50 with
                    | true =>
                      rw [hz] at hk
                      refine And.intro (fun (z : ¬ zb false = 0) => absurd rfl z) (fun _ => ?_)
                      exact zz_e0 hk
                    | false =>
                      rw [hz] at hk eV
                      try dsimp only [cond_false] at hk
                      try dsimp only [cond_false] at eV
                      refine And.intro (fun _ => ?_) (fun (z : zb true = 0) => absurd z (by decide))
                      exact Exists.intro (m - 0) (And.intro (by show m - 0 < 100 + 3 * (50 - 50) + 2; omega) ⟨0, ⟨m, Nat.zero_le _, hm, hm2, rfl, (by rw [eV, hm2, nI_clamp (by omega)] <;> rfl), rfl, rfl⟩, rfl, rfl, rfl, rfl⟩)
          · have hj2 : j < 50 := Nat.lt_of_not_le (fun z : 50 ≤ j => c1 (nI_le z (by omega)))
            cases ha : aN (kW im c) j with
            | true =>
              refine And.intro (fun _ => ?_) (fun (z : zb true = 0) => absurd z (by decide))
              exact Exists.intro (100 + 3 * (50 - j) + 1) (And.intro (by show 100 + 3 * (50 - j) + 1 < 100 + 3 * (50 - j) + 2; omega) ⟨j, ⟨hj2, rfl, (by dsimp only; rw [show aN (kW im c) (j + 1) = true from (by rw [aN_s, ha, Bool.true_or]; try rfl)]; rfl)⟩, rfl, rfl, rfl, rfl⟩)
            | false =>
              refine And.intro (fun (z : ¬ zb false = 0) => absurd rfl z) (fun _ => ?_)
              have e1 : (50 : Int32) * nI c + nI j = nI (50 * c + j) := by
                show nI 50 * nI c + nI j = _
                rw [pk_mul, nI_add]
              have e2 : (nI (50 * c + j)).toNatClampNeg = 50 * c + j := nI_clamp (by omega)
              have i1 : vp_in ((50 : Int32) * nI c + nI j) 1000 := by rw [e1]; exact zn_in (by omega) (by decide)
              refine And.intro i1 ?_
              refine And.intro (fun (d : im ((50 : Int32) * nI c + nI j).toNatClampNeg = 0) => ?_) (fun (d : ¬ im ((50 : Int32) * nI c + nI j).toNatClampNeg = 0) => ?_)
              · rw [e1, e2] at d
                have d : bi im c j = false := by unfold bi; rw [decide_eq_true d]; rfl
                have hw : kW im c j = false := by unfold kW; rw [d, Bool.false_and]; try rfl
                exact Exists.intro (100 + 3 * (50 - j) + 1) (And.intro (by show 100 + 3 * (50 - j) + 1 < 100 + 3 * (50 - j) + 2; omega) ⟨j, ⟨hj2, rfl, (by dsimp only; rw [show aN (kW im c) (j + 1) = false from (by rw [aN_s, ha, hw]; try rfl)]; rfl)⟩, rfl, rfl, rfl, rfl⟩)
              · rw [e1, e2] at d
                have d : bi im c j = true := by unfold bi; rw [decide_eq_false d]; rfl
                refine (And.intro (And.intro rfl (And.intro rfl (And.intro rfl (And.intro (by decide) (by decide))))) ?_)
                refine Exists.intro f (Exists.intro R (Exists.intro (((nI 0), tp, ln, aa, wr, pl), ta, ((td, le, ge, re, lg, ne), (nn, nk, nr, nx), su, (wa, ot, fm, tz)), (rk, mr, un, bg, bf), kd, im) (Exists.intro j (And.intro hj2 (And.intro rfl (And.intro rfl (?_)))))))
                refine And.intro (fun (d2 : nI (kO im j) ≤ 1) => ?_) (fun (d2 : ¬ nI (kO im j) ≤ 1) => ?_)
                · have ho : decide (1 < kO im j) = false := decide_eq_false (fun z => by have := (nI_leI (b := 1) (by have := kO_le im j; omega) (by decide)).mp d2; omega)
                  have hw : kW im c j = false := by unfold kW; rw [d, ho]; try rfl
                  exact Exists.intro (100 + 3 * (50 - j) + 1) (And.intro (by show 100 + 3 * (50 - j) + 1 < 100 + 3 * (50 - j) + 2; omega) ⟨j, ⟨hj2, rfl, (by dsimp only; rw [show aN (kW im c) (j + 1) = false from (by rw [aN_s, ha, hw]; try rfl)]; rfl)⟩, rfl, rfl, rfl, rfl⟩)
                · have ho : decide (1 < kO im j) = true := decide_eq_true (Nat.lt_of_not_le (fun z => d2 (nI_le z (by decide))))
                  have hw : kW im c j = true := by unfold kW; rw [d, ho]; try rfl
                  exact Exists.intro (100 + 3 * (50 - j) + 1) (And.intro (by show 100 + 3 * (50 - j) + 1 < 100 + 3 * (50 - j) + 2; omega) ⟨j, ⟨hj2, rfl, (by dsimp only; rw [show aN (kW im c) (j + 1) = true from (by rw [aN_s, ha, hw]; try rfl)]; rfl)⟩, rfl, rfl, rfl, rfl⟩)
        · skip
          rintro z ls st ws nc ns ⟨j, ⟨hj2, rfl, rfl⟩, rfl, rfl, rfl, rfl⟩
          dsimp only
          have ej : (nI j).toNatClampNeg = j := nI_clamp (by omega)
          have ij : vp_in (nI j) 50 := zn_in hj2 (by decide)
          refine (And.intro (And.intro rfl (And.intro rfl (And.intro rfl (And.intro (by decide) (by decide))))) ?_)
          refine Exists.intro f (Exists.intro R (Exists.intro (((nI 0), tp, ln, aa, wr, pl), ta, ((td, le, ge, re, lg, ne), (nn, nk, nr, nx), su, (wa, ot, fm, tz)), (rk, mr, un, bg, bf), kd, im) (Exists.intro c (Exists.intro j (And.intro hc (And.intro hj2 (And.intro rfl (And.intro rfl (?_)))))))))
          cases hc9 : kC im mr c j with
          | true =>
            refine And.intro (fun (z : zb true = 0) => absurd z (by decide)) (fun _ => ?_)
            cases hr : aN (kR im (rk, mr, un, bg, bf) c (re n)) j with
            | true =>
              refine And.intro (fun _ => ?_) (fun (z : ¬ zb false = 0) => absurd rfl z)
              exact Exists.intro (100 + 3 * (50 - j)) (And.intro (by show 100 + 3 * (50 - j) < 100 + 3 * (50 - j) + 1; omega) ⟨j, ⟨hj2, hc9, rfl, (by dsimp only; rw [show aN (kR im (rk, mr, un, bg, bf) c (re n)) (j + 1) = true from (by rw [aN_s, hr, Bool.true_or]; try rfl)]; rfl)⟩, rfl, rfl, rfl, rfl⟩)
            | false =>
              refine And.intro (fun (z : zb true = 0) => absurd z (by decide)) (fun _ => ?_)
              refine And.intro ij ?_
              refine And.intro (fun (d1 : bg (nI j).toNatClampNeg < 0) => ?_) (fun (d1 : ¬ bg (nI j).toNatClampNeg < 0) => ?_)
              · rw [ej] at d1
                have hr9 : kR im (rk, mr, un, bg, bf) c (re n) j = false := by unfold kR; dsimp only; rw [hc9, decide_eq_true d1]; try rfl
                exact Exists.intro (100 + 3 * (50 - j)) (And.intro (by show 100 + 3 * (50 - j) < 100 + 3 * (50 - j) + 1; omega) ⟨j, ⟨hj2, hc9, rfl, (by dsimp only; rw [show aN (kR im (rk, mr, un, bg, bf) c (re n)) (j + 1) = false from (by rw [aN_s, hr, hr9]; try rfl)]; rfl)⟩, rfl, rfl, rfl, rfl⟩)
              · rw [ej] at d1
                refine And.intro ij ?_
                refine And.intro (fun (d2 : bf (nI j).toNatClampNeg < 0) => ?_) (fun (d2 : ¬ bf (nI j).toNatClampNeg < 0) => ?_)
                · rw [ej] at d2
                  have hr9 : kR im (rk, mr, un, bg, bf) c (re n) j = false := by unfold kR; dsimp only; rw [hc9, decide_eq_false d1, decide_eq_true d2]; try rfl
                  exact Exists.intro (100 + 3 * (50 - j)) (And.intro (by show 100 + 3 * (50 - j) < 100 + 3 * (50 - j) + 1; omega) ⟨j, ⟨hj2, hc9, rfl, (by dsimp only; rw [show aN (kR im (rk, mr, un, bg, bf) c (re n)) (j + 1) = false from (by rw [aN_s, hr, hr9]; try rfl)]; rfl)⟩, rfl, rfl, rfl, rfl⟩)
                · rw [ej] at d2
                  refine And.intro ij (And.intro ij (And.intro in1 ?_))
                  refine And.intro (fun (d3 : bg (nI j).toNatClampNeg - bf (nI j).toNatClampNeg < re (nI n).toNatClampNeg) => ?_) (fun (d3 : ¬ bg (nI j).toNatClampNeg - bf (nI j).toNatClampNeg < re (nI n).toNatClampNeg) => ?_)
                  · rw [ej, en] at d3
                    have hr9 : kR im (rk, mr, un, bg, bf) c (re n) j = true := by unfold kR; dsimp only; rw [hc9, decide_eq_false d1, decide_eq_false d2, decide_eq_true d3]; try rfl
                    exact Exists.intro (100 + 3 * (50 - j)) (And.intro (by show 100 + 3 * (50 - j) < 100 + 3 * (50 - j) + 1; omega) ⟨j, ⟨hj2, hc9, rfl, (by dsimp only; rw [show aN (kR im (rk, mr, un, bg, bf) c (re n)) (j + 1) = true from (by rw [aN_s, hr, hr9]; try rfl)]; rfl)⟩, rfl, rfl, rfl, rfl⟩)
                  · rw [ej, en] at d3
                    have hr9 : kR im (rk, mr, un, bg, bf) c (re n) j = false := by unfold kR; dsimp only; rw [hc9, decide_eq_false d1, decide_eq_false d2, decide_eq_false d3]; try rfl
                    exact Exists.intro (100 + 3 * (50 - j)) (And.intro (by show 100 + 3 * (50 - j) < 100 + 3 * (50 - j) + 1; omega) ⟨j, ⟨hj2, hc9, rfl, (by dsimp only; rw [show aN (kR im (rk, mr, un, bg, bf) c (re n)) (j + 1) = false from (by rw [aN_s, hr, hr9]; try rfl)]; rfl)⟩, rfl, rfl, rfl, rfl⟩)
          | false =>
            refine And.intro (fun _ => ?_) (fun (z : ¬ zb false = 0) => absurd rfl z)
            have hr9 : kR im (rk, mr, un, bg, bf) c (re n) j = false := by unfold kR; dsimp only; rw [hc9, Bool.false_and]; try rfl
            have hz9 : kZ im (rk, mr, un, bg, bf) c h (lg n) j = false := by unfold kZ; dsimp only; rw [hc9, Bool.false_and]; try rfl
            exact Exists.intro (100 + 3 * (50 - (j + 1)) + 2) (And.intro (by show 100 + 3 * (50 - (j + 1)) + 2 < 100 + 3 * (50 - j) + 1; omega) ⟨j + 1, ⟨hj2, rfl, (by dsimp only; rw [show aN (kR im (rk, mr, un, bg, bf) c (re n)) (j + 1) = aN (kR im (rk, mr, un, bg, bf) c (re n)) j from (by rw [aN_s, hr9, Bool.or_false]), show aN (kZ im (rk, mr, un, bg, bf) c h (lg n)) (j + 1) = aN (kZ im (rk, mr, un, bg, bf) c h (lg n)) j from (by rw [aN_s, hz9, Bool.or_false]), ← nI_1 j]; rfl)⟩, rfl, rfl, rfl, rfl⟩)
        · skip
          rintro z ls st ws nc ns ⟨j, ⟨hj2, hc9, rfl, rfl⟩, rfl, rfl, rfl, rfl⟩
          dsimp only at hc9 ⊢
          have ej : (nI j).toNatClampNeg = j := nI_clamp (by omega)
          have ij : vp_in (nI j) 50 := zn_in hj2 (by decide)
          cases hz : aN (kZ im (rk, mr, un, bg, bf) c h (lg n)) j with
          | true =>
            refine And.intro (fun _ => ?_) (fun (z : ¬ zb false = 0) => absurd rfl z)
            exact Exists.intro (100 + 3 * (50 - (j + 1)) + 2) (And.intro (by show 100 + 3 * (50 - (j + 1)) + 2 < 100 + 3 * (50 - j); omega) ⟨j + 1, ⟨hj2, rfl, (by dsimp only; rw [show aN (kZ im (rk, mr, un, bg, bf) c h (lg n)) (j + 1) = true from (by rw [aN_s, hz, Bool.true_or]; try rfl), ← nI_1 j]; rfl)⟩, rfl, rfl, rfl, rfl⟩)
          | false =>
            refine And.intro (fun (z : zb true = 0) => absurd z (by decide)) (fun _ => ?_)
            refine And.intro ij ?_
            refine And.intro (fun (d1 : bg (nI j).toNatClampNeg < 0) => ?_) (fun (d1 : ¬ bg (nI j).toNatClampNeg < 0) => ?_)
            · rw [ej] at d1
              have hz9 : kZ im (rk, mr, un, bg, bf) c h (lg n) j = true := by unfold kZ; dsimp only; rw [hc9, decide_eq_true d1]; try rfl
              exact Exists.intro (100 + 3 * (50 - (j + 1)) + 2) (And.intro (by show 100 + 3 * (50 - (j + 1)) + 2 < 100 + 3 * (50 - j); omega) ⟨j + 1, ⟨hj2, rfl, (by dsimp only; rw [show aN (kZ im (rk, mr, un, bg, bf) c h (lg n)) (j + 1) = true from (by rw [aN_s, hz, hz9]; try rfl), ← nI_1 j]; rfl)⟩, rfl, rfl, rfl, rfl⟩)
            · rw [ej] at d1
              refine And.intro ij ?_
              refine And.intro (fun (d2 : h < bg (nI j).toNatClampNeg) => ?_) (fun (d2 : ¬ h < bg (nI j).toNatClampNeg) => ?_)
              · rw [ej] at d2
                have hz9 : kZ im (rk, mr, un, bg, bf) c h (lg n) j = true := by unfold kZ; dsimp only; rw [hc9, decide_eq_false d1, decide_eq_true d2]; try rfl
                exact Exists.intro (100 + 3 * (50 - (j + 1)) + 2) (And.intro (by show 100 + 3 * (50 - (j + 1)) + 2 < 100 + 3 * (50 - j); omega) ⟨j + 1, ⟨hj2, rfl, (by dsimp only; rw [show aN (kZ im (rk, mr, un, bg, bf) c h (lg n)) (j + 1) = true from (by rw [aN_s, hz, hz9]; try rfl), ← nI_1 j]; rfl)⟩, rfl, rfl, rfl, rfl⟩)
              · rw [ej] at d2
                refine And.intro ij (And.intro in1 ?_)
                refine And.intro (fun (d3 : lg (nI n).toNatClampNeg < h - bg (nI j).toNatClampNeg) => ?_) (fun (d3 : ¬ lg (nI n).toNatClampNeg < h - bg (nI j).toNatClampNeg) => ?_)
                · rw [ej, en] at d3
                  have hz9 : kZ im (rk, mr, un, bg, bf) c h (lg n) j = true := by unfold kZ; dsimp only; rw [hc9, decide_eq_false d1, decide_eq_false d2, decide_eq_true d3]; try rfl
                  exact Exists.intro (100 + 3 * (50 - (j + 1)) + 2) (And.intro (by show 100 + 3 * (50 - (j + 1)) + 2 < 100 + 3 * (50 - j); omega) ⟨j + 1, ⟨hj2, rfl, (by dsimp only; rw [show aN (kZ im (rk, mr, un, bg, bf) c h (lg n)) (j + 1) = true from (by rw [aN_s, hz, hz9]; try rfl), ← nI_1 j]; rfl)⟩, rfl, rfl, rfl, rfl⟩)
                · rw [ej, en] at d3
                  have hz9 : kZ im (rk, mr, un, bg, bf) c h (lg n) j = false := by unfold kZ; dsimp only; rw [hc9, decide_eq_false d1, decide_eq_false d2, decide_eq_false d3]; try rfl
                  exact Exists.intro (100 + 3 * (50 - (j + 1)) + 2) (And.intro (by show 100 + 3 * (50 - (j + 1)) + 2 < 100 + 3 * (50 - j); omega) ⟨j + 1, ⟨hj2, rfl, (by dsimp only; rw [show aN (kZ im (rk, mr, un, bg, bf) c h (lg n)) (j + 1) = false from (by rw [aN_s, hz, hz9]; try rfl), ← nI_1 j]; rfl)⟩, rfl, rfl, rfl, rfl⟩)
        · skip
          rintro z ls st ws nc ns ⟨j, ⟨m1, hj, h6, hm1, hf, hV, rfl, rfl⟩, rfl, rfl, rfl, rfl⟩
          dsimp only at hm1 hf hV
          have hmm : m1 = m := by
            rw [hm2] at hm1
            exact (nI_inj9 (by omega) (by omega) hm1).symm
          refine And.intro in1 ?_
          refine And.intro (fun (c1 : ne (nI n).toNatClampNeg ≤ nI j) => ?_) (fun (c1 : ¬ ne (nI n).toNatClampNeg ≤ nI j) => ?_)
          · rw [en, hm1] at c1
            have : j = m1 := by
              have := (nI_leI (by omega) (by omega)).mp c1
              omega
            rw [hV, ← this, hf] at hk
            exact zz_e0 hk
          · rw [en, hm1] at c1
            have hj2 : j < m1 := Nat.lt_of_not_le (fun z : m1 ≤ j => c1 (nI_le z (by omega)))
            obtain ⟨u, hu, hu2⟩ := hsk j (by omega)
            have e1 : (6 : Int32) * nI n + nI j = nI (6 * n + j) := by
              show nI 6 * nI n + nI j = _
              rw [pk_mul, nI_add]
            have e2 : (nI (6 * n + j)).toNatClampNeg = 6 * n + j := nI_clamp (by omega)
            have i1 : vp_in ((6 : Int32) * nI n + nI j) 120 := by rw [e1]; exact zn_in (by omega) (by decide)
            have hD : kU im (rk, mr, un, bg, bf) ((td, le, ge, re, lg, ne), (nn, nk, nr, nx), su, (wa, ot, fm, tz)) c h n j = (decide (nI (kE im (rk, mr, un, bg, bf) ((td, le, ge, re, lg, ne), (nn, nk, nr, nx), su, (wa, ot, fm, tz)) (some c) u (nr (6 * n + j)) h) < nn (6 * n + j)) || (!decide (nx (6 * n + j) = 0) && decide (nn (6 * n + j) < nI (kE im (rk, mr, un, bg, bf) ((td, le, ge, re, lg, ne), (nn, nk, nr, nx), su, (wa, ot, fm, tz)) (some c) u (nr (6 * n + j)) h)))) := by
              show (decide (nI (kE im (rk, mr, un, bg, bf) ((td, le, ge, re, lg, ne), (nn, nk, nr, nx), su, (wa, ot, fm, tz)) (some c) (nk (6 * n + j)).toNatClampNeg (nr (6 * n + j)) h) < nn (6 * n + j)) || (!decide (nx (6 * n + j) = 0) && decide (nn (6 * n + j) < nI (kE im (rk, mr, un, bg, bf) ((td, le, ge, re, lg, ne), (nn, nk, nr, nx), su, (wa, ot, fm, tz)) (some c) (nk (6 * n + j)).toNatClampNeg (nr (6 * n + j)) h)))) = _
              rw [hu2, nI_clamp (by omega)]
            refine And.intro i1 (And.intro i1 ?_)
            refine (And.intro (And.intro rfl (And.intro rfl (And.intro rfl (And.intro (by decide) (by decide))))) ?_)
            refine Exists.intro f (Exists.intro R (Exists.intro (((nI 0), tp, ln, aa, wr, pl), ta, ((td, le, ge, re, lg, ne), (nn, nk, nr, nx), su, (wa, ot, fm, tz)), (rk, mr, un, bg, bf), kd, im) (Exists.intro (some c) (Exists.intro u (Exists.intro (nr ((6 : Int32) * nI n + nI j).toNatClampNeg) (Exists.intro h (And.intro (fun x hx => by cases hx; exact hc) (And.intro hu (And.intro hM.1 (And.intro (by show [Value.ref 46, .int (nI c), .int (nk ((6 : Int32) * nI n + nI j).toNatClampNeg), .int (nr ((6 : Int32) * nI n + nI j).toNatClampNeg), .int h] = [Value.ref 46, .int (rO (some c)), .int (nI u), .int (nr ((6 : Int32) * nI n + nI j).toNatClampNeg), .int h]; rw [e1, e2, hu2]; rfl) (And.intro rfl (?_))))))))))))
            refine And.intro i1 ?_
            rw [e1, e2]
            refine And.intro (fun (d1 : nI (kE im (rk, mr, un, bg, bf) ((td, le, ge, re, lg, ne), (nn, nk, nr, nx), su, (wa, ot, fm, tz)) (some c) u (nr (6 * n + j)) h) < nn (6 * n + j)) => ?_) (fun (d1 : ¬ nI (kE im (rk, mr, un, bg, bf) ((td, le, ge, re, lg, ne), (nn, nk, nr, nx), su, (wa, ot, fm, tz)) (some c) u (nr (6 * n + j)) h) < nn (6 * n + j)) => ?_)
            · have hU : kU im (rk, mr, un, bg, bf) ((td, le, ge, re, lg, ne), (nn, nk, nr, nx), su, (wa, ot, fm, tz)) c h n j = true := by rw [hD, decide_eq_true d1]; try rfl
              rw [hV, fN_s hf hU hj2] at hk
              exact zz_e0 hk
            · refine And.intro i1 ?_
              refine And.intro (fun (d2 : nx ((6 : Int32) * nI n + nI j).toNatClampNeg = 0) => ?_) (fun (d2 : ¬ nx ((6 : Int32) * nI n + nI j).toNatClampNeg = 0) => ?_)
              · rw [e1, e2] at d2
                have hU : kU im (rk, mr, un, bg, bf) ((td, le, ge, re, lg, ne), (nn, nk, nr, nx), su, (wa, ot, fm, tz)) c h n j = false := by rw [hD, decide_eq_false d1, decide_eq_true d2]; try rfl
                exact Exists.intro (m1 - (j + 1)) (And.intro (by show m1 - (j + 1) < m1 - j; omega) ⟨j + 1, ⟨m1, hj2, h6, hm1, fN_n hf hU, hV, rfl, (by rw [← nI_1 j]; rfl)⟩, rfl, rfl, rfl, rfl⟩)
              · rw [e1, e2] at d2
                refine And.intro (fun (d3 : nI (kE im (rk, mr, un, bg, bf) ((td, le, ge, re, lg, ne), (nn, nk, nr, nx), su, (wa, ot, fm, tz)) (some c) u (nr (6 * n + j)) h) ≤ nn (6 * n + j)) => ?_) (fun (d3 : ¬ nI (kE im (rk, mr, un, bg, bf) ((td, le, ge, re, lg, ne), (nn, nk, nr, nx), su, (wa, ot, fm, tz)) (some c) u (nr (6 * n + j)) h) ≤ nn (6 * n + j)) => ?_)
                · have hU : kU im (rk, mr, un, bg, bf) ((td, le, ge, re, lg, ne), (nn, nk, nr, nx), su, (wa, ot, fm, tz)) c h n j = false := by rw [hD, decide_eq_false d1, decide_eq_false d2, decide_eq_false (zn_ge.mpr d3)]; try rfl
                  exact Exists.intro (m1 - (j + 1)) (And.intro (by show m1 - (j + 1) < m1 - j; omega) ⟨j + 1, ⟨m1, hj2, h6, hm1, fN_n hf hU, hV, rfl, (by rw [← nI_1 j]; rfl)⟩, rfl, rfl, rfl, rfl⟩)
                · have hU : kU im (rk, mr, un, bg, bf) ((td, le, ge, re, lg, ne), (nn, nk, nr, nx), su, (wa, ot, fm, tz)) c h n j = true := by rw [hD, decide_eq_false d1, decide_eq_false d2, decide_eq_true (zn_gt.mp d3)]; try rfl
                  rw [hV, fN_s hf hU hj2] at hk
                  exact zz_e0 hk
        · skip
          refine (And.intro (And.intro rfl (And.intro rfl (And.intro rfl (And.intro (by decide) (by decide))))) ?_)
          refine Exists.intro (nI c) (And.intro rfl (?_))
          rw [c1]
          refine And.intro (fun _ => ?_) (fun (z : zb true = 0) => absurd z (by decide))
          refine (And.intro (And.intro rfl (And.intro rfl (And.intro rfl (And.intro (by decide) (by decide))))) ?_)
          refine Exists.intro h (And.intro rfl (?_))
          rw [c2]
          refine And.intro (fun _ => ?_) (fun (z : zb true = 0) => absurd z (by decide))
          refine (And.intro (And.intro rfl (And.intro rfl (And.intro rfl (And.intro (by decide) (by decide))))) ?_)
          refine Exists.intro f (Exists.intro R (Exists.intro ((th, tp, ln, aa, wr, pl), ta, ((td, le, ge, re, lg, ne), (nn, nk, nr, nx), su, (wa, ot, fm, tz)), (rk, mr, un, bg, bf), kd, im) (Exists.intro false (Exists.intro false (Exists.intro false (And.intro rfl (And.intro rfl (?_))))))))
          refine And.intro (fun _ => ?_) (fun (z : ¬ zb false = 0) => absurd rfl z)
          refine And.intro (zn_in hc (by decide)) ?_
          rw [ekd]
          refine And.intro in1 ?_
          refine And.intro (fun _ => ?_) (fun (z : td (nI n).toNatClampNeg = 0) => absurd (by rw [en] at z; exact z) hd)
          refine (And.intro (And.intro rfl (And.intro rfl (And.intro rfl (And.intro (by decide) (by decide))))) ?_)
          refine Exists.intro f (Exists.intro R (Exists.intro (((nI 0), tp, ln, aa, wr, pl), ta, ((td, le, ge, re, lg, ne), (nn, nk, nr, nx), su, (wa, ot, fm, tz)), (rk, mr, un, bg, bf), kd, im) (Exists.intro c (And.intro hc (And.intro rfl (And.intro rfl (?_)))))))
          exact Exists.intro (100 + 3 * (50 - 0) + 2) (And.intro trivial ⟨0, ⟨Nat.zero_le _, rfl, rfl⟩, rfl, rfl, rfl, rfl⟩)
theorem recv_Mo_verdict : ∀ As ws k x, pt_Mo_verdict As ws k x → ∃ q As' fs, As = .ref q :: As' ∧ ws[q]? = some (.inr (7, fs)) := by
  rintro As ws k x ⟨f, R, t, c, h, hM, hK, rfl, rfl, hk⟩
  exact ⟨_, _, _, rfl, rfl⟩
