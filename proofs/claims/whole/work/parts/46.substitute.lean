/-! ===== the model: a substitute ===== -/
def pt_Mo_substitute : zz_PT := fun As ws k _ => ∃ (f : Nat → va_E) (R : List va_E) (t : qM) (n a q : Nat) (b : qB), mA t n a ∧ a ≤ n ∧ t.1.2.2.2.2.1 = zb false ∧ rel 1 b t.2.2.1 ∧ q < 10 ∧ b.2.2.2.2 = nI q ∧ As = [.ref 46] ∧ ws = gW f t R ∧ ∀ (aa wr pl : Int32) (H : qH), lowEq t.2.2.1 H → (Bd t.2.1 n (pSub t.2.1 n a b) 20000 aa wr pl ∨ ((pSub t.2.1 n a b).1 = true ∧ Gd n (pSub t.2.1 n a b).2.1 (pSub t.2.1 n a b).2.2 t.1.2.2.2.2.2 aa wr pl H)) → k none (gW f (rT t aa wr pl H) R)
theorem tsk_1 {tb : qA} {n a a1 v : Nat} (h : tsk tb n a = (some v, a1)) : a1 = sk tb n a + 1 := by
  unfold tsk at h
  split at h
  · cases h; rfl
  · cases h
set_option maxHeartbeats 4000000 in
set_option maxRecDepth 100000 in
theorem m_Mo_substitute (l : Launch) : zz_M zz_CL l y_Mo_substitute (Cond.code y_Mo_substitute c_Mo_substitute 3 none :: zz_big) (zz_rm 4 86 1 6) (1, false, 0, 0, pt_Mo_substitute) := by
  refine zz_M_of (HOST := "CrewRules") (L := [(0, 130, (1, false, 0, 0, pt_Mo_letter)), (0, 124, (2, false, 0, 0, pt_Mo_expect)), (0, 108, (1, false, 0, 0, pt_Mo_see)), (0, 112, (2, false, 0, 0, pt_Mo_fail)), (0, 120, (3, false, 0, 0, pt_Mo_number))]) (sw := sw_Mo_substitute) (pg := pg_Mo_substitute) (th := th_Mo_substitute) (ini := false) (by decide +kernel) zz_static (fun h => nomatch h) (by decide) (by decide) ok_Mo_substitute (zz_cons (zz_ev_V (m_Mo_letter l) yw_Mo_letter yv_Mo_letter lk_Mo_130 ⟨rfl, rfl, by decide, by decide⟩ (ci := 7) rfl recv_Mo_letter) (zz_cons (zz_ev_V (m_Mo_expect l) yw_Mo_expect yv_Mo_expect lk_Mo_124 ⟨rfl, rfl, by decide, by decide⟩ (ci := 7) rfl recv_Mo_expect) (zz_cons (zz_ev_V (m_Mo_see l) yw_Mo_see yv_Mo_see lk_Mo_108 ⟨rfl, rfl, by decide, by decide⟩ (ci := 7) rfl recv_Mo_see) (zz_cons (zz_ev_V (m_Mo_fail l) yw_Mo_fail yv_Mo_fail lk_Mo_112 ⟨rfl, rfl, by decide, by decide⟩ (ci := 7) rfl recv_Mo_fail) (zz_cons (zz_ev_V (m_Mo_number l) yw_Mo_number yv_Mo_number lk_Mo_120 ⟨rfl, rfl, by decide, by decide⟩ (ci := 7) rfl recv_Mo_number) zz_nil))))) (fun pc E h => (nomatch h)) (zz_VC0 200 ?_)
  rintro As ws k x ⟨f, R, ⟨⟨th, tp, ln, aa, wr, pl⟩, ta, ⟨⟨td, le, ge, re, lg, ne⟩, ⟨nn, nk, nr, nx⟩, su, ⟨wa, ot, fm, tz⟩⟩, ⟨rk, mr, un, bg, bf⟩, kd, im⟩, n, a, q, b, ⟨h1, h2, h8, -⟩, han, hw, hrel, hq, hbq, rfl, rfl, hk⟩
  dsimp only at h1 h2 h8 hw hrel hk
  subst h1; subst h2; subst hw
  have hn := h8.1
  have hlow : lowEq ((td, le, ge, re, lg, ne), (nn, nk, nr, nx), su, (wa, ot, fm, tz)) ((td, le, ge, re, lg, ne), (nn, nk, nr, nx), su, (wa, ot, fm, tz)) := lowEq_r
  have hsu : su 1 = nI q := by
    obtain ⟨q', -, g1, g2, -⟩ := hrel.2.2.1
    rw [← hbq, g1]
    exact g2
  obtain ⟨r, hr⟩ : ∃ r, r = 10 + q := ⟨_, rfl⟩
  have e10 : (10 : Int32) + nI q = nI r := by
    rw [hr]
    show nI 10 + nI q = _
    rw [nI_add]
  have er : (nI r).toNatClampNeg = r := nI_clamp (by omega)
  have ir : vp_in (nI r) 20 := zn_in (by omega) (by decide)
  have ir10 : vp_in ((10 : Int32) + nI q) 20 := by rw [e10]; exact ir
  refine ⟨Nat.le_of_ble_eq_true rfl, ?_⟩
  refine And.intro (zn_in (i := 1) (by decide) (by decide)) ?_
  refine zz_wn (ls := [some (.ref 46), none, none]) (st := [.int (nI q), .int 10]) (ws := gW f ((th, tp, (nI n), (nI a), (zb false), pl), ta, ((td, le, ge, re, lg, ne), (nn, nk, nr, nx), su, (wa, ot, fm, tz)), (rk, mr, un, bg, bf), kd, im) R) (nc := 0) (ns := 0) rfl (by rw [← hsu]; rfl) rfl rfl rfl ?_
  refine (And.intro (And.intro rfl (And.intro rfl (And.intro rfl (And.intro (by decide) (by decide))))) ?_)
  refine Exists.intro f (Exists.intro R (Exists.intro ((th, tp, (nI n), (nI a), (zb false), pl), ta, ((td, le, ge, re, lg, ne), (nn, nk, nr, nx), su, (wa, ot, fm, tz)), (rk, mr, un, bg, bf), kd, im) (Exists.intro n (Exists.intro a (Exists.intro false (And.intro ⟨rfl, rfl, h8, by omega⟩ (And.intro rfl (And.intro rfl (And.intro rfl ((fun rr hrr => ?_)))))))))))
  have hbhu := tsk_le (tb := ta) (n := n) (a := a) h8 (by omega)
  rcases hu : tsk ta n a with ⟨_ | u, a1⟩
  · rw [hu] at hbhu
    dsimp only at hbhu
    have hrr := hrr.trans (mL_0 h8 (by omega) hu)
    subst hrr
    refine And.intro ir10 ?_
    refine zz_wn (ls := [some (.ref 46), some (.int (nI r)), none]) (st := []) (ws := gW f ((th, tp, (nI n), (nI a1), (zb true), (nI a1)), ta, ((td, le, ge, re, lg, ne), (nn, nk, nr, nx), su, ((upd wa r 0), ot, fm, tz)), (rk, mr, un, bg, bf), kd, im) R) (nc := 0) (ns := 0) (by rw [← e10]; rfl) rfl (by rw [show upd wa r 0 = upd wa ((10 : Int32) + nI q).toNatClampNeg 0 by rw [e10, er]]; rfl) rfl rfl ?_
    refine (And.intro (And.intro rfl (And.intro rfl (And.intro rfl (And.intro (by decide) (by decide))))) ?_)
    refine Exists.intro f (Exists.intro R (Exists.intro ((th, tp, (nI n), (nI a1), (zb true), (nI a1)), ta, ((td, le, ge, re, lg, ne), (nn, nk, nr, nx), su, ((upd wa r 0), ot, fm, tz)), (rk, mr, un, bg, bf), kd, im) (Exists.intro n (Exists.intro a1 (Exists.intro true (Exists.intro 61 (And.intro ⟨rfl, rfl, h8, by omega⟩ (And.intro rfl (And.intro rfl (And.intro rfl (?_)))))))))))
    have hsw := sk_big (tb := ta) (a := a1) hn
    rw [mE_w (t := ((th, tp, (nI n), (nI a1), (zb true), (nI a1)), ta, ((td, le, ge, re, lg, ne), (nn, nk, nr, nx), su, ((upd wa r 0), ot, fm, tz)), (rk, mr, un, bg, bf), kd, im)) rfl]
    refine (And.intro (And.intro rfl (And.intro rfl (And.intro rfl (And.intro (by decide) (by decide))))) ?_)
    refine Exists.intro f (Exists.intro R (Exists.intro ((th, tp, (nI n), (nI (sk ta n a1 + 1)), (zb true), (nI a1)), ta, ((td, le, ge, re, lg, ne), (nn, nk, nr, nx), su, ((upd wa r 0), ot, fm, tz)), (rk, mr, un, bg, bf), kd, im) (Exists.intro n (Exists.intro (sk ta n a1 + 1) (And.intro ⟨rfl, rfl, h8, by omega⟩ (And.intro rfl (And.intro rfl (?_))))))))
    have hsw := sk_big (tb := ta) (a := (sk ta n a1 + 1)) hn
    refine And.intro (fun _ => ?_) (fun (z : zb true = 0) => absurd z (by decide))
    refine And.intro (fun _ => ?_) (fun (z : zb true = 0) => absurd z (by decide))
    refine (And.intro (And.intro rfl (And.intro rfl (And.intro rfl (And.intro (by decide) (by decide))))) ?_)
    refine Exists.intro f (Exists.intro R (Exists.intro ((th, tp, (nI n), (nI (sk ta n (sk ta n a1 + 1))), (zb true), (nI a1)), ta, ((td, le, ge, re, lg, ne), (nn, nk, nr, nx), su, ((upd wa r 0), ot, fm, tz)), (rk, mr, un, bg, bf), kd, im) (Exists.intro n (Exists.intro (sk ta n (sk ta n a1 + 1)) (Exists.intro true (Exists.intro 91 (And.intro ⟨rfl, rfl, h8, by omega⟩ (And.intro rfl (And.intro rfl (And.intro rfl (?_)))))))))))
    have hsw := sk_big (tb := ta) (a := (sk ta n (sk ta n a1 + 1))) hn
    rw [mE_w (t := ((th, tp, (nI n), (nI (sk ta n (sk ta n a1 + 1))), (zb true), (nI a1)), ta, ((td, le, ge, re, lg, ne), (nn, nk, nr, nx), su, ((upd wa r 0), ot, fm, tz)), (rk, mr, un, bg, bf), kd, im)) rfl]
    refine And.intro (fun _ => ?_) (fun (z : zb true = 0) => absurd z (by decide))
    refine (And.intro (And.intro rfl (And.intro rfl (And.intro rfl (And.intro (by decide) (by decide))))) ?_)
    refine Exists.intro f (Exists.intro R (Exists.intro ((th, tp, (nI n), (nI (sk ta n (sk ta n (sk ta n a1 + 1)) + 1)), (zb true), (nI a1)), ta, ((td, le, ge, re, lg, ne), (nn, nk, nr, nx), su, ((upd wa r 0), ot, fm, tz)), (rk, mr, un, bg, bf), kd, im) (Exists.intro n (Exists.intro (sk ta n (sk ta n (sk ta n a1 + 1)) + 1) (Exists.intro true (Exists.intro 45 (And.intro ⟨rfl, rfl, h8, by omega⟩ (And.intro rfl (And.intro rfl (And.intro rfl (?_)))))))))))
    have hsw := sk_big (tb := ta) (a := (sk ta n (sk ta n (sk ta n a1 + 1)) + 1)) hn
    rw [mE_w (t := ((th, tp, (nI n), (nI (sk ta n (sk ta n (sk ta n a1 + 1)) + 1)), (zb true), (nI a1)), ta, ((td, le, ge, re, lg, ne), (nn, nk, nr, nx), su, ((upd wa r 0), ot, fm, tz)), (rk, mr, un, bg, bf), kd, im)) rfl]
    refine And.intro (fun _ => ?_) (fun (z : zb true = 0) => absurd z (by decide))
    refine (And.intro (And.intro rfl (And.intro rfl (And.intro rfl (And.intro (by decide) (by decide))))) ?_)
    refine Exists.intro f (Exists.intro R (Exists.intro ((th, tp, (nI n), (nI (sk ta n (sk ta n (sk ta n (sk ta n a1 + 1)) + 1) + 1)), (zb true), (nI a1)), ta, ((td, le, ge, re, lg, ne), (nn, nk, nr, nx), su, ((upd wa r 0), ot, fm, tz)), (rk, mr, un, bg, bf), kd, im) (Exists.intro n (Exists.intro (sk ta n (sk ta n (sk ta n (sk ta n a1 + 1)) + 1) + 1) (Exists.intro true (Exists.intro 93 (And.intro ⟨rfl, rfl, h8, by omega⟩ (And.intro rfl (And.intro rfl (And.intro rfl (?_)))))))))))
    have hsw := sk_big (tb := ta) (a := (sk ta n (sk ta n (sk ta n (sk ta n a1 + 1)) + 1) + 1)) hn
    rw [mE_w (t := ((th, tp, (nI n), (nI (sk ta n (sk ta n (sk ta n (sk ta n a1 + 1)) + 1) + 1)), (zb true), (nI a1)), ta, ((td, le, ge, re, lg, ne), (nn, nk, nr, nx), su, ((upd wa r 0), ot, fm, tz)), (rk, mr, un, bg, bf), kd, im)) rfl]
    refine And.intro (zn_in (i := 1) (by decide) (by decide)) (And.intro (zn_in (i := 1) (by decide) (by decide)) ?_)
    exact zz_ev0 (hk (nI (sk ta n (sk ta n (sk ta n (sk ta n (sk ta n a1 + 1)) + 1) + 1) + 1)) (zb true) (nI a1) ((td, le, ge, re, lg, ne), (nn, nk, nr, nx), (upd su 1 (su 1 + 1)), ((upd wa r 0), ot, fm, tz)) (by exact ⟨⟨hlow.1.1, hlow.1.2.1, hlow.1.2.2.1, hlow.1.2.2.2.1, hlow.1.2.2.2.2.1, hlow.1.2.2.2.2.2⟩, ⟨hlow.2.1.1, hlow.2.1.2.1, hlow.2.1.2.2.1, hlow.2.1.2.2.2⟩, lo_u (hlow.2.2.1) (by omega), ⟨lo_u (hlow.2.2.2.1) (by omega), hlow.2.2.2.2.1, hlow.2.2.2.2.2.1, hlow.2.2.2.2.2.2⟩⟩) (Or.inl ⟨rfl, a1, (sk ta n (sk ta n (sk ta n (sk ta n (sk ta n a1 + 1)) + 1) + 1) + 1), rfl, (okb_f (by unfold pSub; simp only [hu])), rfl, by omega⟩))
  · rw [hu] at hbhu
    dsimp only at hbhu
    have hvhu := hbhu.2.2 _ rfl
    have hrr := hrr.trans (mL_1 h8 (by omega) hu).1
    subst hrr
    refine And.intro ir10 ?_
    refine zz_wn (ls := [some (.ref 46), some (.int (nI r)), none]) (st := []) (ws := gW f ((th, tp, (nI n), (nI a1), (zb false), pl), ta, ((td, le, ge, re, lg, ne), (nn, nk, nr, nx), su, ((upd wa r (nI u)), ot, fm, tz)), (rk, mr, un, bg, bf), kd, im) R) (nc := 0) (ns := 0) (by rw [← e10]; rfl) rfl (by rw [show upd wa r (nI u) = upd wa ((10 : Int32) + nI q).toNatClampNeg (nI u) by rw [e10, er]]; rfl) rfl rfl ?_
    refine (And.intro (And.intro rfl (And.intro rfl (And.intro rfl (And.intro (by decide) (by decide))))) ?_)
    refine Exists.intro f (Exists.intro R (Exists.intro ((th, tp, (nI n), (nI a1), (zb false), pl), ta, ((td, le, ge, re, lg, ne), (nn, nk, nr, nx), su, ((upd wa r (nI u)), ot, fm, tz)), (rk, mr, un, bg, bf), kd, im) (Exists.intro n (Exists.intro a1 (Exists.intro false (Exists.intro 61 (And.intro ⟨rfl, rfl, h8, by omega⟩ (And.intro rfl (And.intro rfl (And.intro rfl (?_)))))))))))
    have hbh61 := tk_le (tb := ta) (n := n) (a := a1) (c := 61) (by decide) (by omega)
    rcases h61 : tk ta n a1 61 with ⟨_ | _, a2⟩
    · rw [h61] at hbh61
      dsimp only at hbh61
      rw [mE_f (t := ((th, tp, (nI n), (nI a1), (zb false), pl), ta, ((td, le, ge, re, lg, ne), (nn, nk, nr, nx), su, ((upd wa r (nI u)), ot, fm, tz)), (rk, mr, un, bg, bf), kd, im)) h61]
      refine (And.intro (And.intro rfl (And.intro rfl (And.intro rfl (And.intro (by decide) (by decide))))) ?_)
      refine Exists.intro f (Exists.intro R (Exists.intro ((th, tp, (nI n), (nI (a2 + 1)), (zb true), (nI a2)), ta, ((td, le, ge, re, lg, ne), (nn, nk, nr, nx), su, ((upd wa r (nI u)), ot, fm, tz)), (rk, mr, un, bg, bf), kd, im) (Exists.intro n (Exists.intro (a2 + 1) (And.intro ⟨rfl, rfl, h8, by omega⟩ (And.intro rfl (And.intro rfl (?_))))))))
      have hsw := sk_big (tb := ta) (a := (a2 + 1)) hn
      refine And.intro (fun _ => ?_) (fun (z : zb true = 0) => absurd z (by decide))
      refine And.intro (fun _ => ?_) (fun (z : zb true = 0) => absurd z (by decide))
      refine (And.intro (And.intro rfl (And.intro rfl (And.intro rfl (And.intro (by decide) (by decide))))) ?_)
      refine Exists.intro f (Exists.intro R (Exists.intro ((th, tp, (nI n), (nI (sk ta n (a2 + 1))), (zb true), (nI a2)), ta, ((td, le, ge, re, lg, ne), (nn, nk, nr, nx), su, ((upd wa r (nI u)), ot, fm, tz)), (rk, mr, un, bg, bf), kd, im) (Exists.intro n (Exists.intro (sk ta n (a2 + 1)) (Exists.intro true (Exists.intro 91 (And.intro ⟨rfl, rfl, h8, by omega⟩ (And.intro rfl (And.intro rfl (And.intro rfl (?_)))))))))))
      have hsw := sk_big (tb := ta) (a := (sk ta n (a2 + 1))) hn
      rw [mE_w (t := ((th, tp, (nI n), (nI (sk ta n (a2 + 1))), (zb true), (nI a2)), ta, ((td, le, ge, re, lg, ne), (nn, nk, nr, nx), su, ((upd wa r (nI u)), ot, fm, tz)), (rk, mr, un, bg, bf), kd, im)) rfl]
      refine And.intro (fun _ => ?_) (fun (z : zb true = 0) => absurd z (by decide))
      refine (And.intro (And.intro rfl (And.intro rfl (And.intro rfl (And.intro (by decide) (by decide))))) ?_)
      refine Exists.intro f (Exists.intro R (Exists.intro ((th, tp, (nI n), (nI (sk ta n (sk ta n (a2 + 1)) + 1)), (zb true), (nI a2)), ta, ((td, le, ge, re, lg, ne), (nn, nk, nr, nx), su, ((upd wa r (nI u)), ot, fm, tz)), (rk, mr, un, bg, bf), kd, im) (Exists.intro n (Exists.intro (sk ta n (sk ta n (a2 + 1)) + 1) (Exists.intro true (Exists.intro 45 (And.intro ⟨rfl, rfl, h8, by omega⟩ (And.intro rfl (And.intro rfl (And.intro rfl (?_)))))))))))
      have hsw := sk_big (tb := ta) (a := (sk ta n (sk ta n (a2 + 1)) + 1)) hn
      rw [mE_w (t := ((th, tp, (nI n), (nI (sk ta n (sk ta n (a2 + 1)) + 1)), (zb true), (nI a2)), ta, ((td, le, ge, re, lg, ne), (nn, nk, nr, nx), su, ((upd wa r (nI u)), ot, fm, tz)), (rk, mr, un, bg, bf), kd, im)) rfl]
      refine And.intro (fun _ => ?_) (fun (z : zb true = 0) => absurd z (by decide))
      refine (And.intro (And.intro rfl (And.intro rfl (And.intro rfl (And.intro (by decide) (by decide))))) ?_)
      refine Exists.intro f (Exists.intro R (Exists.intro ((th, tp, (nI n), (nI (sk ta n (sk ta n (sk ta n (a2 + 1)) + 1) + 1)), (zb true), (nI a2)), ta, ((td, le, ge, re, lg, ne), (nn, nk, nr, nx), su, ((upd wa r (nI u)), ot, fm, tz)), (rk, mr, un, bg, bf), kd, im) (Exists.intro n (Exists.intro (sk ta n (sk ta n (sk ta n (a2 + 1)) + 1) + 1) (Exists.intro true (Exists.intro 93 (And.intro ⟨rfl, rfl, h8, by omega⟩ (And.intro rfl (And.intro rfl (And.intro rfl (?_)))))))))))
      have hsw := sk_big (tb := ta) (a := (sk ta n (sk ta n (sk ta n (a2 + 1)) + 1) + 1)) hn
      rw [mE_w (t := ((th, tp, (nI n), (nI (sk ta n (sk ta n (sk ta n (a2 + 1)) + 1) + 1)), (zb true), (nI a2)), ta, ((td, le, ge, re, lg, ne), (nn, nk, nr, nx), su, ((upd wa r (nI u)), ot, fm, tz)), (rk, mr, un, bg, bf), kd, im)) rfl]
      refine And.intro (zn_in (i := 1) (by decide) (by decide)) (And.intro (zn_in (i := 1) (by decide) (by decide)) ?_)
      exact zz_ev0 (hk (nI (sk ta n (sk ta n (sk ta n (sk ta n (a2 + 1)) + 1) + 1) + 1)) (zb true) (nI a2) ((td, le, ge, re, lg, ne), (nn, nk, nr, nx), (upd su 1 (su 1 + 1)), ((upd wa r (nI u)), ot, fm, tz)) (by exact ⟨⟨hlow.1.1, hlow.1.2.1, hlow.1.2.2.1, hlow.1.2.2.2.1, hlow.1.2.2.2.2.1, hlow.1.2.2.2.2.2⟩, ⟨hlow.2.1.1, hlow.2.1.2.1, hlow.2.1.2.2.1, hlow.2.1.2.2.2⟩, lo_u (hlow.2.2.1) (by omega), ⟨lo_u (hlow.2.2.2.1) (by omega), hlow.2.2.2.2.1, hlow.2.2.2.2.2.1, hlow.2.2.2.2.2.2⟩⟩) (Or.inl ⟨rfl, a2, (sk ta n (sk ta n (sk ta n (sk ta n (a2 + 1)) + 1) + 1) + 1), rfl, (okb_f (by unfold pSub; simp only [hu, h61])), rfl, by omega⟩))
    · rw [h61] at hbh61
      dsimp only at hbh61
      rw [mE_t (t := ((th, tp, (nI n), (nI a1), (zb false), pl), ta, ((td, le, ge, re, lg, ne), (nn, nk, nr, nx), su, ((upd wa r (nI u)), ot, fm, tz)), (rk, mr, un, bg, bf), kd, im)) h61]
      have hs2 := sk_b (tb := ta) (n := n) (a := a2) (by omega)
      refine (And.intro (And.intro rfl (And.intro rfl (And.intro rfl (And.intro (by decide) (by decide))))) ?_)
      refine Exists.intro f (Exists.intro R (Exists.intro ((th, tp, (nI n), (nI a2), (zb false), pl), ta, ((td, le, ge, re, lg, ne), (nn, nk, nr, nx), su, ((upd wa r (nI u)), ot, fm, tz)), (rk, mr, un, bg, bf), kd, im) (Exists.intro n (Exists.intro a2 (And.intro ⟨rfl, rfl, h8, by omega⟩ (And.intro rfl (And.intro rfl (?_))))))))
      refine And.intro (fun (z : ¬ zb false = 0) => absurd rfl z) (fun _ => ?_)
      refine (And.intro (And.intro rfl (And.intro rfl (And.intro rfl (And.intro (by decide) (by decide))))) ?_)
      refine Exists.intro f (Exists.intro R (Exists.intro ((th, tp, (nI n), (nI (sk ta n a2)), (zb false), pl), ta, ((td, le, ge, re, lg, ne), (nn, nk, nr, nx), su, ((upd wa r (nI u)), ot, fm, tz)), (rk, mr, un, bg, bf), kd, im) (Exists.intro n (Exists.intro (sk ta n a2) (Exists.intro false (And.intro ⟨rfl, rfl, h8, by omega⟩ (And.intro rfl (And.intro rfl (And.intro rfl ((fun rr hrr => ?_)))))))))))
      have hrr : rr = mL ta n (sk ta n (sk ta n a2)) := hrr
      rw [sk_sk] at hrr
      have hbhv := tsk_le (tb := ta) (n := n) (a := a2) h8 (by omega)
      rcases hv : tsk ta n a2 with ⟨_ | v, a3⟩
      · rw [hv] at hbhv
        dsimp only at hbhv
        have hrr := hrr.trans (mL_0 h8 (by omega) hv)
        subst hrr
        refine And.intro ir ?_
        refine And.intro (fun _ => ?_) (fun (z : zb true = 0) => absurd z (by decide))
        refine (And.intro (And.intro rfl (And.intro rfl (And.intro rfl (And.intro (by decide) (by decide))))) ?_)
        refine Exists.intro f (Exists.intro R (Exists.intro ((th, tp, (nI n), (nI a3), (zb true), (nI a3)), ta, ((td, le, ge, re, lg, ne), (nn, nk, nr, nx), su, ((upd wa r (nI u)), (upd ot (nI r).toNatClampNeg 0), fm, tz)), (rk, mr, un, bg, bf), kd, im) (Exists.intro n (Exists.intro a3 (Exists.intro true (Exists.intro 91 (And.intro ⟨rfl, rfl, h8, by omega⟩ (And.intro rfl (And.intro rfl (And.intro rfl (?_)))))))))))
        have hsw := sk_big (tb := ta) (a := a3) hn
        rw [mE_w (t := ((th, tp, (nI n), (nI a3), (zb true), (nI a3)), ta, ((td, le, ge, re, lg, ne), (nn, nk, nr, nx), su, ((upd wa r (nI u)), (upd ot (nI r).toNatClampNeg 0), fm, tz)), (rk, mr, un, bg, bf), kd, im)) rfl]
        refine And.intro (fun _ => ?_) (fun (z : zb true = 0) => absurd z (by decide))
        refine (And.intro (And.intro rfl (And.intro rfl (And.intro rfl (And.intro (by decide) (by decide))))) ?_)
        refine Exists.intro f (Exists.intro R (Exists.intro ((th, tp, (nI n), (nI (sk ta n a3 + 1)), (zb true), (nI a3)), ta, ((td, le, ge, re, lg, ne), (nn, nk, nr, nx), su, ((upd wa r (nI u)), (upd ot (nI r).toNatClampNeg 0), fm, tz)), (rk, mr, un, bg, bf), kd, im) (Exists.intro n (Exists.intro (sk ta n a3 + 1) (Exists.intro true (Exists.intro 45 (And.intro ⟨rfl, rfl, h8, by omega⟩ (And.intro rfl (And.intro rfl (And.intro rfl (?_)))))))))))
        have hsw := sk_big (tb := ta) (a := (sk ta n a3 + 1)) hn
        rw [mE_w (t := ((th, tp, (nI n), (nI (sk ta n a3 + 1)), (zb true), (nI a3)), ta, ((td, le, ge, re, lg, ne), (nn, nk, nr, nx), su, ((upd wa r (nI u)), (upd ot (nI r).toNatClampNeg 0), fm, tz)), (rk, mr, un, bg, bf), kd, im)) rfl]
        refine And.intro (fun _ => ?_) (fun (z : zb true = 0) => absurd z (by decide))
        refine (And.intro (And.intro rfl (And.intro rfl (And.intro rfl (And.intro (by decide) (by decide))))) ?_)
        refine Exists.intro f (Exists.intro R (Exists.intro ((th, tp, (nI n), (nI (sk ta n (sk ta n a3 + 1) + 1)), (zb true), (nI a3)), ta, ((td, le, ge, re, lg, ne), (nn, nk, nr, nx), su, ((upd wa r (nI u)), (upd ot (nI r).toNatClampNeg 0), fm, tz)), (rk, mr, un, bg, bf), kd, im) (Exists.intro n (Exists.intro (sk ta n (sk ta n a3 + 1) + 1) (Exists.intro true (Exists.intro 93 (And.intro ⟨rfl, rfl, h8, by omega⟩ (And.intro rfl (And.intro rfl (And.intro rfl (?_)))))))))))
        have hsw := sk_big (tb := ta) (a := (sk ta n (sk ta n a3 + 1) + 1)) hn
        rw [mE_w (t := ((th, tp, (nI n), (nI (sk ta n (sk ta n a3 + 1) + 1)), (zb true), (nI a3)), ta, ((td, le, ge, re, lg, ne), (nn, nk, nr, nx), su, ((upd wa r (nI u)), (upd ot (nI r).toNatClampNeg 0), fm, tz)), (rk, mr, un, bg, bf), kd, im)) rfl]
        refine And.intro (zn_in (i := 1) (by decide) (by decide)) (And.intro (zn_in (i := 1) (by decide) (by decide)) ?_)
        exact zz_ev0 (hk (nI (sk ta n (sk ta n (sk ta n a3 + 1) + 1) + 1)) (zb true) (nI a3) ((td, le, ge, re, lg, ne), (nn, nk, nr, nx), (upd su 1 (su 1 + 1)), ((upd wa r (nI u)), (upd ot (nI r).toNatClampNeg 0), fm, tz)) (by rw [er]; exact ⟨⟨hlow.1.1, hlow.1.2.1, hlow.1.2.2.1, hlow.1.2.2.2.1, hlow.1.2.2.2.2.1, hlow.1.2.2.2.2.2⟩, ⟨hlow.2.1.1, hlow.2.1.2.1, hlow.2.1.2.2.1, hlow.2.1.2.2.2⟩, lo_u (hlow.2.2.1) (by omega), ⟨lo_u (hlow.2.2.2.1) (by omega), lo_u (hlow.2.2.2.2.1) (by omega), hlow.2.2.2.2.2.1, hlow.2.2.2.2.2.2⟩⟩) (Or.inl ⟨rfl, a3, (sk ta n (sk ta n (sk ta n a3 + 1) + 1) + 1), rfl, (okb_f (by unfold pSub; simp only [hu, h61, hv])), rfl, by omega⟩))
      · rw [hv] at hbhv
        dsimp only at hbhv
        have hvhv := hbhv.2.2 _ rfl
        have hrr := hrr.trans (mL_1 h8 (by omega) hv).1
        subst hrr
        have hsa : a3 = sk ta n a2 + 1 := tsk_1 hv
        refine And.intro ir ?_
        refine And.intro (fun (z : ¬ zb false = 0) => absurd rfl z) (fun _ => ?_)
        refine And.intro ir (And.intro ir ?_)
        by_cases huv : v = u
        · refine And.intro (fun (d : ¬ upd ot (nI r).toNatClampNeg (nI v) (nI r).toNatClampNeg = upd wa r (nI u) (nI r).toNatClampNeg) => absurd (by rw [er, up_s, up_s, huv]) d) (fun _ => ?_)
          refine (And.intro (And.intro rfl (And.intro rfl (And.intro rfl (And.intro (by decide) (by decide))))) ?_)
          refine Exists.intro f (Exists.intro R (Exists.intro ((th, tp, (nI n), (nI a3), (zb false), pl), ta, ((td, le, ge, re, lg, ne), (nn, nk, nr, nx), su, ((upd wa r (nI u)), (upd ot (nI r).toNatClampNeg (nI v)), fm, tz)), (rk, mr, un, bg, bf), kd, im) (Exists.intro false (Exists.intro (nI (sk ta n a2)) (And.intro rfl (And.intro rfl (And.intro rfl (?_))))))))
          refine (And.intro (And.intro rfl (And.intro rfl (And.intro rfl (And.intro (by decide) (by decide))))) ?_)
          refine Exists.intro f (Exists.intro R (Exists.intro ((th, tp, (nI n), (nI a3), (zb true), (nI (sk ta n a2))), ta, ((td, le, ge, re, lg, ne), (nn, nk, nr, nx), su, ((upd wa r (nI u)), (upd ot (nI r).toNatClampNeg (nI v)), fm, tz)), (rk, mr, un, bg, bf), kd, im) (Exists.intro n (Exists.intro a3 (Exists.intro true (Exists.intro 91 (And.intro ⟨rfl, rfl, h8, by omega⟩ (And.intro rfl (And.intro rfl (And.intro rfl (?_)))))))))))
          have hsw := sk_big (tb := ta) (a := a3) hn
          rw [mE_w (t := ((th, tp, (nI n), (nI a3), (zb true), (nI (sk ta n a2))), ta, ((td, le, ge, re, lg, ne), (nn, nk, nr, nx), su, ((upd wa r (nI u)), (upd ot (nI r).toNatClampNeg (nI v)), fm, tz)), (rk, mr, un, bg, bf), kd, im)) rfl]
          refine And.intro (fun _ => ?_) (fun (z : zb true = 0) => absurd z (by decide))
          refine (And.intro (And.intro rfl (And.intro rfl (And.intro rfl (And.intro (by decide) (by decide))))) ?_)
          refine Exists.intro f (Exists.intro R (Exists.intro ((th, tp, (nI n), (nI (sk ta n a3 + 1)), (zb true), (nI (sk ta n a2))), ta, ((td, le, ge, re, lg, ne), (nn, nk, nr, nx), su, ((upd wa r (nI u)), (upd ot (nI r).toNatClampNeg (nI v)), fm, tz)), (rk, mr, un, bg, bf), kd, im) (Exists.intro n (Exists.intro (sk ta n a3 + 1) (Exists.intro true (Exists.intro 45 (And.intro ⟨rfl, rfl, h8, by omega⟩ (And.intro rfl (And.intro rfl (And.intro rfl (?_)))))))))))
          have hsw := sk_big (tb := ta) (a := (sk ta n a3 + 1)) hn
          rw [mE_w (t := ((th, tp, (nI n), (nI (sk ta n a3 + 1)), (zb true), (nI (sk ta n a2))), ta, ((td, le, ge, re, lg, ne), (nn, nk, nr, nx), su, ((upd wa r (nI u)), (upd ot (nI r).toNatClampNeg (nI v)), fm, tz)), (rk, mr, un, bg, bf), kd, im)) rfl]
          refine And.intro (fun _ => ?_) (fun (z : zb true = 0) => absurd z (by decide))
          refine (And.intro (And.intro rfl (And.intro rfl (And.intro rfl (And.intro (by decide) (by decide))))) ?_)
          refine Exists.intro f (Exists.intro R (Exists.intro ((th, tp, (nI n), (nI (sk ta n (sk ta n a3 + 1) + 1)), (zb true), (nI (sk ta n a2))), ta, ((td, le, ge, re, lg, ne), (nn, nk, nr, nx), su, ((upd wa r (nI u)), (upd ot (nI r).toNatClampNeg (nI v)), fm, tz)), (rk, mr, un, bg, bf), kd, im) (Exists.intro n (Exists.intro (sk ta n (sk ta n a3 + 1) + 1) (Exists.intro true (Exists.intro 93 (And.intro ⟨rfl, rfl, h8, by omega⟩ (And.intro rfl (And.intro rfl (And.intro rfl (?_)))))))))))
          have hsw := sk_big (tb := ta) (a := (sk ta n (sk ta n a3 + 1) + 1)) hn
          rw [mE_w (t := ((th, tp, (nI n), (nI (sk ta n (sk ta n a3 + 1) + 1)), (zb true), (nI (sk ta n a2))), ta, ((td, le, ge, re, lg, ne), (nn, nk, nr, nx), su, ((upd wa r (nI u)), (upd ot (nI r).toNatClampNeg (nI v)), fm, tz)), (rk, mr, un, bg, bf), kd, im)) rfl]
          refine And.intro (zn_in (i := 1) (by decide) (by decide)) (And.intro (zn_in (i := 1) (by decide) (by decide)) ?_)
          exact zz_ev0 (hk (nI (sk ta n (sk ta n (sk ta n a3 + 1) + 1) + 1)) (zb true) (nI (sk ta n a2)) ((td, le, ge, re, lg, ne), (nn, nk, nr, nx), (upd su 1 (su 1 + 1)), ((upd wa r (nI u)), (upd ot (nI r).toNatClampNeg (nI v)), fm, tz)) (by rw [er]; exact ⟨⟨hlow.1.1, hlow.1.2.1, hlow.1.2.2.1, hlow.1.2.2.2.1, hlow.1.2.2.2.2.1, hlow.1.2.2.2.2.2⟩, ⟨hlow.2.1.1, hlow.2.1.2.1, hlow.2.1.2.2.1, hlow.2.1.2.2.2⟩, lo_u (hlow.2.2.1) (by omega), ⟨lo_u (hlow.2.2.2.1) (by omega), lo_u (hlow.2.2.2.2.1) (by omega), hlow.2.2.2.2.2.1, hlow.2.2.2.2.2.2⟩⟩) (Or.inl ⟨rfl, (sk ta n a2), (sk ta n (sk ta n (sk ta n a3 + 1) + 1) + 1), rfl, (okb_f (by unfold pSub; simp only [hu, h61, hv, if_pos huv]; rw [show a3 - 1 = sk ta n a2 by omega])), rfl, by omega⟩))
        · refine And.intro (fun _ => ?_) (fun (d : upd ot (nI r).toNatClampNeg (nI v) (nI r).toNatClampNeg = upd wa r (nI u) (nI r).toNatClampNeg) => absurd (by rw [er, up_s, up_s] at d; exact nI_inj9 (by omega) (by omega) d) huv)
          refine (And.intro (And.intro rfl (And.intro rfl (And.intro rfl (And.intro (by decide) (by decide))))) ?_)
          refine Exists.intro f (Exists.intro R (Exists.intro ((th, tp, (nI n), (nI a3), (zb false), pl), ta, ((td, le, ge, re, lg, ne), (nn, nk, nr, nx), su, ((upd wa r (nI u)), (upd ot (nI r).toNatClampNeg (nI v)), fm, tz)), (rk, mr, un, bg, bf), kd, im) (Exists.intro n (Exists.intro a3 (Exists.intro false (Exists.intro 91 (And.intro ⟨rfl, rfl, h8, by omega⟩ (And.intro rfl (And.intro rfl (And.intro rfl (?_)))))))))))
          have hbh91 := tk_le (tb := ta) (n := n) (a := a3) (c := 91) (by decide) (by omega)
          rcases h91 : tk ta n a3 91 with ⟨_ | _, a4⟩
          · rw [h91] at hbh91
            dsimp only at hbh91
            rw [mE_f (t := ((th, tp, (nI n), (nI a3), (zb false), pl), ta, ((td, le, ge, re, lg, ne), (nn, nk, nr, nx), su, ((upd wa r (nI u)), (upd ot (nI r).toNatClampNeg (nI v)), fm, tz)), (rk, mr, un, bg, bf), kd, im)) h91]
            refine And.intro (fun _ => ?_) (fun (z : zb true = 0) => absurd z (by decide))
            refine (And.intro (And.intro rfl (And.intro rfl (And.intro rfl (And.intro (by decide) (by decide))))) ?_)
            refine Exists.intro f (Exists.intro R (Exists.intro ((th, tp, (nI n), (nI (a4 + 1)), (zb true), (nI a4)), ta, ((td, le, ge, re, lg, ne), (nn, nk, nr, nx), su, ((upd wa r (nI u)), (upd ot (nI r).toNatClampNeg (nI v)), fm, tz)), (rk, mr, un, bg, bf), kd, im) (Exists.intro n (Exists.intro (a4 + 1) (Exists.intro true (Exists.intro 45 (And.intro ⟨rfl, rfl, h8, by omega⟩ (And.intro rfl (And.intro rfl (And.intro rfl (?_)))))))))))
            have hsw := sk_big (tb := ta) (a := (a4 + 1)) hn
            rw [mE_w (t := ((th, tp, (nI n), (nI (a4 + 1)), (zb true), (nI a4)), ta, ((td, le, ge, re, lg, ne), (nn, nk, nr, nx), su, ((upd wa r (nI u)), (upd ot (nI r).toNatClampNeg (nI v)), fm, tz)), (rk, mr, un, bg, bf), kd, im)) rfl]
            refine And.intro (fun _ => ?_) (fun (z : zb true = 0) => absurd z (by decide))
            refine (And.intro (And.intro rfl (And.intro rfl (And.intro rfl (And.intro (by decide) (by decide))))) ?_)
            refine Exists.intro f (Exists.intro R (Exists.intro ((th, tp, (nI n), (nI (sk ta n (a4 + 1) + 1)), (zb true), (nI a4)), ta, ((td, le, ge, re, lg, ne), (nn, nk, nr, nx), su, ((upd wa r (nI u)), (upd ot (nI r).toNatClampNeg (nI v)), fm, tz)), (rk, mr, un, bg, bf), kd, im) (Exists.intro n (Exists.intro (sk ta n (a4 + 1) + 1) (Exists.intro true (Exists.intro 93 (And.intro ⟨rfl, rfl, h8, by omega⟩ (And.intro rfl (And.intro rfl (And.intro rfl (?_)))))))))))
            have hsw := sk_big (tb := ta) (a := (sk ta n (a4 + 1) + 1)) hn
            rw [mE_w (t := ((th, tp, (nI n), (nI (sk ta n (a4 + 1) + 1)), (zb true), (nI a4)), ta, ((td, le, ge, re, lg, ne), (nn, nk, nr, nx), su, ((upd wa r (nI u)), (upd ot (nI r).toNatClampNeg (nI v)), fm, tz)), (rk, mr, un, bg, bf), kd, im)) rfl]
            refine And.intro (zn_in (i := 1) (by decide) (by decide)) (And.intro (zn_in (i := 1) (by decide) (by decide)) ?_)
            exact zz_ev0 (hk (nI (sk ta n (sk ta n (a4 + 1) + 1) + 1)) (zb true) (nI a4) ((td, le, ge, re, lg, ne), (nn, nk, nr, nx), (upd su 1 (su 1 + 1)), ((upd wa r (nI u)), (upd ot (nI r).toNatClampNeg (nI v)), fm, tz)) (by rw [er]; exact ⟨⟨hlow.1.1, hlow.1.2.1, hlow.1.2.2.1, hlow.1.2.2.2.1, hlow.1.2.2.2.2.1, hlow.1.2.2.2.2.2⟩, ⟨hlow.2.1.1, hlow.2.1.2.1, hlow.2.1.2.2.1, hlow.2.1.2.2.2⟩, lo_u (hlow.2.2.1) (by omega), ⟨lo_u (hlow.2.2.2.1) (by omega), lo_u (hlow.2.2.2.2.1) (by omega), hlow.2.2.2.2.2.1, hlow.2.2.2.2.2.2⟩⟩) (Or.inl ⟨rfl, a4, (sk ta n (sk ta n (a4 + 1) + 1) + 1), rfl, (okb_f (by unfold pSub; simp only [hu, h61, hv, if_neg huv, h91])), rfl, by omega⟩))
          · rw [h91] at hbh91
            dsimp only at hbh91
            rw [mE_t (t := ((th, tp, (nI n), (nI a3), (zb false), pl), ta, ((td, le, ge, re, lg, ne), (nn, nk, nr, nx), su, ((upd wa r (nI u)), (upd ot (nI r).toNatClampNeg (nI v)), fm, tz)), (rk, mr, un, bg, bf), kd, im)) h91]
            refine And.intro (fun (z : ¬ zb false = 0) => absurd rfl z) (fun _ => ?_)
            refine (And.intro (And.intro rfl (And.intro rfl (And.intro rfl (And.intro (by decide) (by decide))))) ?_)
            refine Exists.intro f (Exists.intro R (Exists.intro ((th, tp, (nI n), (nI a4), (zb false), pl), ta, ((td, le, ge, re, lg, ne), (nn, nk, nr, nx), su, ((upd wa r (nI u)), (upd ot (nI r).toNatClampNeg (nI v)), fm, tz)), (rk, mr, un, bg, bf), kd, im) (Exists.intro n (Exists.intro a4 (Exists.intro 0 (Exists.intro 23 (Exists.intro false (And.intro ⟨rfl, rfl, h8, by omega⟩ (And.intro rfl (And.intro (by omega) (And.intro (by omega) (And.intro rfl (And.intro rfl ((fun rr hrr => ?_)))))))))))))))
            have hbh23 := tn_le (tb := ta) (n := n) (a := a4) (lo := 0) (hi := 23) h8 (by omega)
            rcases h23 : tn ta n a4 0 23 with ⟨_ | y, a5⟩
            · rw [h23] at hbh23
              dsimp only at hbh23
              have hn0 := mn_tn0 h23
              have hnb := mn_b (tb := ta) (n := n) (s := sk ta n a4) (lo := 0) (hi := 23)
              have hsb := sk_big (tb := ta) (a := a4) hn
              rw [show mn ta n (sk ta n a4) 0 23 = rr from hrr.symm] at hn0 hnb
              obtain ⟨vv, av, FF⟩ := rr
              dsimp only at hn0 hnb
              subst hn0
              refine And.intro ir ?_
              refine (And.intro (And.intro rfl (And.intro rfl (And.intro rfl (And.intro (by decide) (by decide))))) ?_)
              refine Exists.intro f (Exists.intro R (Exists.intro ((th, tp, (nI n), (nI av), (zb true), (nI a5)), ta, ((td, le, ge, re, lg, ne), (nn, nk, nr, nx), su, ((upd wa r (nI u)), (upd ot (nI r).toNatClampNeg (nI v)), (upd fm (nI r).toNatClampNeg vv), tz)), (rk, mr, un, bg, bf), kd, im) (Exists.intro n (Exists.intro av (Exists.intro true (Exists.intro 45 (And.intro ⟨rfl, rfl, h8, by omega⟩ (And.intro rfl (And.intro rfl (And.intro rfl (?_)))))))))))
              have hsw := sk_big (tb := ta) (a := av) hn
              rw [mE_w (t := ((th, tp, (nI n), (nI av), (zb true), (nI a5)), ta, ((td, le, ge, re, lg, ne), (nn, nk, nr, nx), su, ((upd wa r (nI u)), (upd ot (nI r).toNatClampNeg (nI v)), (upd fm (nI r).toNatClampNeg vv), tz)), (rk, mr, un, bg, bf), kd, im)) rfl]
              refine And.intro (fun _ => ?_) (fun (z : zb true = 0) => absurd z (by decide))
              refine (And.intro (And.intro rfl (And.intro rfl (And.intro rfl (And.intro (by decide) (by decide))))) ?_)
              refine Exists.intro f (Exists.intro R (Exists.intro ((th, tp, (nI n), (nI (sk ta n av + 1)), (zb true), (nI a5)), ta, ((td, le, ge, re, lg, ne), (nn, nk, nr, nx), su, ((upd wa r (nI u)), (upd ot (nI r).toNatClampNeg (nI v)), (upd fm (nI r).toNatClampNeg vv), tz)), (rk, mr, un, bg, bf), kd, im) (Exists.intro n (Exists.intro (sk ta n av + 1) (Exists.intro true (Exists.intro 93 (And.intro ⟨rfl, rfl, h8, by omega⟩ (And.intro rfl (And.intro rfl (And.intro rfl (?_)))))))))))
              have hsw := sk_big (tb := ta) (a := (sk ta n av + 1)) hn
              rw [mE_w (t := ((th, tp, (nI n), (nI (sk ta n av + 1)), (zb true), (nI a5)), ta, ((td, le, ge, re, lg, ne), (nn, nk, nr, nx), su, ((upd wa r (nI u)), (upd ot (nI r).toNatClampNeg (nI v)), (upd fm (nI r).toNatClampNeg vv), tz)), (rk, mr, un, bg, bf), kd, im)) rfl]
              refine And.intro (zn_in (i := 1) (by decide) (by decide)) (And.intro (zn_in (i := 1) (by decide) (by decide)) ?_)
              exact zz_ev0 (hk (nI (sk ta n (sk ta n av + 1) + 1)) (zb true) (nI a5) ((td, le, ge, re, lg, ne), (nn, nk, nr, nx), (upd su 1 (su 1 + 1)), ((upd wa r (nI u)), (upd ot (nI r).toNatClampNeg (nI v)), (upd fm (nI r).toNatClampNeg vv), tz)) (by rw [er]; exact ⟨⟨hlow.1.1, hlow.1.2.1, hlow.1.2.2.1, hlow.1.2.2.2.1, hlow.1.2.2.2.2.1, hlow.1.2.2.2.2.2⟩, ⟨hlow.2.1.1, hlow.2.1.2.1, hlow.2.1.2.2.1, hlow.2.1.2.2.2⟩, lo_u (hlow.2.2.1) (by omega), ⟨lo_u (hlow.2.2.2.1) (by omega), lo_u (hlow.2.2.2.2.1) (by omega), lo_u (hlow.2.2.2.2.2.1) (by omega), hlow.2.2.2.2.2.2⟩⟩) (Or.inl ⟨rfl, a5, (sk ta n (sk ta n av + 1) + 1), rfl, (okb_f (by unfold pSub; simp only [hu, h61, hv, if_neg huv, h91, h23])), rfl, by omega⟩))
            · rw [h23] at hbh23
              dsimp only at hbh23
              have hvh23 := hbh23.2.2 _ rfl
              have hn1 := (mn_tn1 h23).1
              have hrr := hrr.trans hn1
              cases hdh23 : (dv ta n a5).isSome with
              | true =>
                rw [hdh23, if_pos rfl] at hrr
                subst hrr
                have t45 := tk_d (c := 45) h8 hdh23 (by decide)
                refine And.intro ir ?_
                refine (And.intro (And.intro rfl (And.intro rfl (And.intro rfl (And.intro (by decide) (by decide))))) ?_)
                refine Exists.intro f (Exists.intro R (Exists.intro ((th, tp, (nI n), (nI a5), (zb true), (nI a5)), ta, ((td, le, ge, re, lg, ne), (nn, nk, nr, nx), su, ((upd wa r (nI u)), (upd ot (nI r).toNatClampNeg (nI v)), (upd fm (nI r).toNatClampNeg (nI y)), tz)), (rk, mr, un, bg, bf), kd, im) (Exists.intro n (Exists.intro a5 (Exists.intro true (Exists.intro 45 (And.intro ⟨rfl, rfl, h8, by omega⟩ (And.intro rfl (And.intro rfl (And.intro rfl (?_)))))))))))
                have hsw := sk_big (tb := ta) (a := a5) hn
                rw [mE_w (t := ((th, tp, (nI n), (nI a5), (zb true), (nI a5)), ta, ((td, le, ge, re, lg, ne), (nn, nk, nr, nx), su, ((upd wa r (nI u)), (upd ot (nI r).toNatClampNeg (nI v)), (upd fm (nI r).toNatClampNeg (nI y)), tz)), (rk, mr, un, bg, bf), kd, im)) rfl]
                refine And.intro (fun _ => ?_) (fun (z : zb true = 0) => absurd z (by decide))
                refine (And.intro (And.intro rfl (And.intro rfl (And.intro rfl (And.intro (by decide) (by decide))))) ?_)
                refine Exists.intro f (Exists.intro R (Exists.intro ((th, tp, (nI n), (nI (sk ta n a5 + 1)), (zb true), (nI a5)), ta, ((td, le, ge, re, lg, ne), (nn, nk, nr, nx), su, ((upd wa r (nI u)), (upd ot (nI r).toNatClampNeg (nI v)), (upd fm (nI r).toNatClampNeg (nI y)), tz)), (rk, mr, un, bg, bf), kd, im) (Exists.intro n (Exists.intro (sk ta n a5 + 1) (Exists.intro true (Exists.intro 93 (And.intro ⟨rfl, rfl, h8, by omega⟩ (And.intro rfl (And.intro rfl (And.intro rfl (?_)))))))))))
                have hsw := sk_big (tb := ta) (a := (sk ta n a5 + 1)) hn
                rw [mE_w (t := ((th, tp, (nI n), (nI (sk ta n a5 + 1)), (zb true), (nI a5)), ta, ((td, le, ge, re, lg, ne), (nn, nk, nr, nx), su, ((upd wa r (nI u)), (upd ot (nI r).toNatClampNeg (nI v)), (upd fm (nI r).toNatClampNeg (nI y)), tz)), (rk, mr, un, bg, bf), kd, im)) rfl]
                refine And.intro (zn_in (i := 1) (by decide) (by decide)) (And.intro (zn_in (i := 1) (by decide) (by decide)) ?_)
                exact zz_ev0 (hk (nI (sk ta n (sk ta n a5 + 1) + 1)) (zb true) (nI a5) ((td, le, ge, re, lg, ne), (nn, nk, nr, nx), (upd su 1 (su 1 + 1)), ((upd wa r (nI u)), (upd ot (nI r).toNatClampNeg (nI v)), (upd fm (nI r).toNatClampNeg (nI y)), tz)) (by rw [er]; exact ⟨⟨hlow.1.1, hlow.1.2.1, hlow.1.2.2.1, hlow.1.2.2.2.1, hlow.1.2.2.2.2.1, hlow.1.2.2.2.2.2⟩, ⟨hlow.2.1.1, hlow.2.1.2.1, hlow.2.1.2.2.1, hlow.2.1.2.2.2⟩, lo_u (hlow.2.2.1) (by omega), ⟨lo_u (hlow.2.2.2.1) (by omega), lo_u (hlow.2.2.2.2.1) (by omega), lo_u (hlow.2.2.2.2.2.1) (by omega), hlow.2.2.2.2.2.2⟩⟩) (Or.inl ⟨rfl, a5, (sk ta n (sk ta n a5 + 1) + 1), rfl, (okb_f (by unfold pSub; simp only [hu, h61, hv, if_neg huv, h91, h23, t45])), rfl, by omega⟩))
              | false =>
                rw [hdh23, if_neg (by decide)] at hrr
                subst hrr
                refine And.intro ir ?_
                refine (And.intro (And.intro rfl (And.intro rfl (And.intro rfl (And.intro (by decide) (by decide))))) ?_)
                refine Exists.intro f (Exists.intro R (Exists.intro ((th, tp, (nI n), (nI a5), (zb false), pl), ta, ((td, le, ge, re, lg, ne), (nn, nk, nr, nx), su, ((upd wa r (nI u)), (upd ot (nI r).toNatClampNeg (nI v)), (upd fm (nI r).toNatClampNeg (nI y)), tz)), (rk, mr, un, bg, bf), kd, im) (Exists.intro n (Exists.intro a5 (Exists.intro false (Exists.intro 45 (And.intro ⟨rfl, rfl, h8, by omega⟩ (And.intro rfl (And.intro rfl (And.intro rfl (?_)))))))))))
                have hbh45 := tk_le (tb := ta) (n := n) (a := a5) (c := 45) (by decide) (by omega)
                rcases h45 : tk ta n a5 45 with ⟨_ | _, a6⟩
                · rw [h45] at hbh45
                  dsimp only at hbh45
                  rw [mE_f (t := ((th, tp, (nI n), (nI a5), (zb false), pl), ta, ((td, le, ge, re, lg, ne), (nn, nk, nr, nx), su, ((upd wa r (nI u)), (upd ot (nI r).toNatClampNeg (nI v)), (upd fm (nI r).toNatClampNeg (nI y)), tz)), (rk, mr, un, bg, bf), kd, im)) h45]
                  refine And.intro (fun _ => ?_) (fun (z : zb true = 0) => absurd z (by decide))
                  refine (And.intro (And.intro rfl (And.intro rfl (And.intro rfl (And.intro (by decide) (by decide))))) ?_)
                  refine Exists.intro f (Exists.intro R (Exists.intro ((th, tp, (nI n), (nI (a6 + 1)), (zb true), (nI a6)), ta, ((td, le, ge, re, lg, ne), (nn, nk, nr, nx), su, ((upd wa r (nI u)), (upd ot (nI r).toNatClampNeg (nI v)), (upd fm (nI r).toNatClampNeg (nI y)), tz)), (rk, mr, un, bg, bf), kd, im) (Exists.intro n (Exists.intro (a6 + 1) (Exists.intro true (Exists.intro 93 (And.intro ⟨rfl, rfl, h8, by omega⟩ (And.intro rfl (And.intro rfl (And.intro rfl (?_)))))))))))
                  have hsw := sk_big (tb := ta) (a := (a6 + 1)) hn
                  rw [mE_w (t := ((th, tp, (nI n), (nI (a6 + 1)), (zb true), (nI a6)), ta, ((td, le, ge, re, lg, ne), (nn, nk, nr, nx), su, ((upd wa r (nI u)), (upd ot (nI r).toNatClampNeg (nI v)), (upd fm (nI r).toNatClampNeg (nI y)), tz)), (rk, mr, un, bg, bf), kd, im)) rfl]
                  refine And.intro (zn_in (i := 1) (by decide) (by decide)) (And.intro (zn_in (i := 1) (by decide) (by decide)) ?_)
                  exact zz_ev0 (hk (nI (sk ta n (a6 + 1) + 1)) (zb true) (nI a6) ((td, le, ge, re, lg, ne), (nn, nk, nr, nx), (upd su 1 (su 1 + 1)), ((upd wa r (nI u)), (upd ot (nI r).toNatClampNeg (nI v)), (upd fm (nI r).toNatClampNeg (nI y)), tz)) (by rw [er]; exact ⟨⟨hlow.1.1, hlow.1.2.1, hlow.1.2.2.1, hlow.1.2.2.2.1, hlow.1.2.2.2.2.1, hlow.1.2.2.2.2.2⟩, ⟨hlow.2.1.1, hlow.2.1.2.1, hlow.2.1.2.2.1, hlow.2.1.2.2.2⟩, lo_u (hlow.2.2.1) (by omega), ⟨lo_u (hlow.2.2.2.1) (by omega), lo_u (hlow.2.2.2.2.1) (by omega), lo_u (hlow.2.2.2.2.2.1) (by omega), hlow.2.2.2.2.2.2⟩⟩) (Or.inl ⟨rfl, a6, (sk ta n (a6 + 1) + 1), rfl, (okb_f (by unfold pSub; simp only [hu, h61, hv, if_neg huv, h91, h23, h45])), rfl, by omega⟩))
                · rw [h45] at hbh45
                  dsimp only at hbh45
                  rw [mE_t (t := ((th, tp, (nI n), (nI a5), (zb false), pl), ta, ((td, le, ge, re, lg, ne), (nn, nk, nr, nx), su, ((upd wa r (nI u)), (upd ot (nI r).toNatClampNeg (nI v)), (upd fm (nI r).toNatClampNeg (nI y)), tz)), (rk, mr, un, bg, bf), kd, im)) h45]
                  refine And.intro (fun (z : ¬ zb false = 0) => absurd rfl z) (fun _ => ?_)
                  refine (And.intro (And.intro rfl (And.intro rfl (And.intro rfl (And.intro (by decide) (by decide))))) ?_)
                  refine Exists.intro f (Exists.intro R (Exists.intro ((th, tp, (nI n), (nI a6), (zb false), pl), ta, ((td, le, ge, re, lg, ne), (nn, nk, nr, nx), su, ((upd wa r (nI u)), (upd ot (nI r).toNatClampNeg (nI v)), (upd fm (nI r).toNatClampNeg (nI y)), tz)), (rk, mr, un, bg, bf), kd, im) (Exists.intro n (Exists.intro a6 (Exists.intro 0 (Exists.intro 23 (Exists.intro false (And.intro ⟨rfl, rfl, h8, by omega⟩ (And.intro rfl (And.intro (by omega) (And.intro (by omega) (And.intro rfl (And.intro rfl ((fun rr hrr => ?_)))))))))))))))
                  have hbh24 := tn_le (tb := ta) (n := n) (a := a6) (lo := 0) (hi := 23) h8 (by omega)
                  rcases h24 : tn ta n a6 0 23 with ⟨_ | z, a7⟩
                  · rw [h24] at hbh24
                    dsimp only at hbh24
                    have hn0 := mn_tn0 h24
                    have hnb := mn_b (tb := ta) (n := n) (s := sk ta n a6) (lo := 0) (hi := 23)
                    have hsb := sk_big (tb := ta) (a := a6) hn
                    rw [show mn ta n (sk ta n a6) 0 23 = rr from hrr.symm] at hn0 hnb
                    obtain ⟨vv, av, FF⟩ := rr
                    dsimp only at hn0 hnb
                    subst hn0
                    refine And.intro ir ?_
                    refine (And.intro (And.intro rfl (And.intro rfl (And.intro rfl (And.intro (by decide) (by decide))))) ?_)
                    refine Exists.intro f (Exists.intro R (Exists.intro ((th, tp, (nI n), (nI av), (zb true), (nI a7)), ta, ((td, le, ge, re, lg, ne), (nn, nk, nr, nx), su, ((upd wa r (nI u)), (upd ot (nI r).toNatClampNeg (nI v)), (upd fm (nI r).toNatClampNeg (nI y)), (upd tz (nI r).toNatClampNeg vv))), (rk, mr, un, bg, bf), kd, im) (Exists.intro n (Exists.intro av (Exists.intro true (Exists.intro 93 (And.intro ⟨rfl, rfl, h8, by omega⟩ (And.intro rfl (And.intro rfl (And.intro rfl (?_)))))))))))
                    have hsw := sk_big (tb := ta) (a := av) hn
                    rw [mE_w (t := ((th, tp, (nI n), (nI av), (zb true), (nI a7)), ta, ((td, le, ge, re, lg, ne), (nn, nk, nr, nx), su, ((upd wa r (nI u)), (upd ot (nI r).toNatClampNeg (nI v)), (upd fm (nI r).toNatClampNeg (nI y)), (upd tz (nI r).toNatClampNeg vv))), (rk, mr, un, bg, bf), kd, im)) rfl]
                    refine And.intro (zn_in (i := 1) (by decide) (by decide)) (And.intro (zn_in (i := 1) (by decide) (by decide)) ?_)
                    exact zz_ev0 (hk (nI (sk ta n av + 1)) (zb true) (nI a7) ((td, le, ge, re, lg, ne), (nn, nk, nr, nx), (upd su 1 (su 1 + 1)), ((upd wa r (nI u)), (upd ot (nI r).toNatClampNeg (nI v)), (upd fm (nI r).toNatClampNeg (nI y)), (upd tz (nI r).toNatClampNeg vv))) (by rw [er]; exact ⟨⟨hlow.1.1, hlow.1.2.1, hlow.1.2.2.1, hlow.1.2.2.2.1, hlow.1.2.2.2.2.1, hlow.1.2.2.2.2.2⟩, ⟨hlow.2.1.1, hlow.2.1.2.1, hlow.2.1.2.2.1, hlow.2.1.2.2.2⟩, lo_u (hlow.2.2.1) (by omega), ⟨lo_u (hlow.2.2.2.1) (by omega), lo_u (hlow.2.2.2.2.1) (by omega), lo_u (hlow.2.2.2.2.2.1) (by omega), lo_u (hlow.2.2.2.2.2.2) (by omega)⟩⟩) (Or.inl ⟨rfl, a7, (sk ta n av + 1), rfl, (okb_f (by unfold pSub; simp only [hu, h61, hv, if_neg huv, h91, h23, h45, h24])), rfl, by omega⟩))
                  · rw [h24] at hbh24
                    dsimp only at hbh24
                    have hvh24 := hbh24.2.2 _ rfl
                    have hn1 := (mn_tn1 h24).1
                    have hrr := hrr.trans hn1
                    cases hdh24 : (dv ta n a7).isSome with
                    | true =>
                      rw [hdh24, if_pos rfl] at hrr
                      subst hrr
                      have t93 := tk_d (c := 93) h8 hdh24 (by decide)
                      refine And.intro ir ?_
                      refine (And.intro (And.intro rfl (And.intro rfl (And.intro rfl (And.intro (by decide) (by decide))))) ?_)
                      refine Exists.intro f (Exists.intro R (Exists.intro ((th, tp, (nI n), (nI a7), (zb true), (nI a7)), ta, ((td, le, ge, re, lg, ne), (nn, nk, nr, nx), su, ((upd wa r (nI u)), (upd ot (nI r).toNatClampNeg (nI v)), (upd fm (nI r).toNatClampNeg (nI y)), (upd tz (nI r).toNatClampNeg (nI z)))), (rk, mr, un, bg, bf), kd, im) (Exists.intro n (Exists.intro a7 (Exists.intro true (Exists.intro 93 (And.intro ⟨rfl, rfl, h8, by omega⟩ (And.intro rfl (And.intro rfl (And.intro rfl (?_)))))))))))
                      have hsw := sk_big (tb := ta) (a := a7) hn
                      rw [mE_w (t := ((th, tp, (nI n), (nI a7), (zb true), (nI a7)), ta, ((td, le, ge, re, lg, ne), (nn, nk, nr, nx), su, ((upd wa r (nI u)), (upd ot (nI r).toNatClampNeg (nI v)), (upd fm (nI r).toNatClampNeg (nI y)), (upd tz (nI r).toNatClampNeg (nI z)))), (rk, mr, un, bg, bf), kd, im)) rfl]
                      refine And.intro (zn_in (i := 1) (by decide) (by decide)) (And.intro (zn_in (i := 1) (by decide) (by decide)) ?_)
                      exact zz_ev0 (hk (nI (sk ta n a7 + 1)) (zb true) (nI a7) ((td, le, ge, re, lg, ne), (nn, nk, nr, nx), (upd su 1 (su 1 + 1)), ((upd wa r (nI u)), (upd ot (nI r).toNatClampNeg (nI v)), (upd fm (nI r).toNatClampNeg (nI y)), (upd tz (nI r).toNatClampNeg (nI z)))) (by rw [er]; exact ⟨⟨hlow.1.1, hlow.1.2.1, hlow.1.2.2.1, hlow.1.2.2.2.1, hlow.1.2.2.2.2.1, hlow.1.2.2.2.2.2⟩, ⟨hlow.2.1.1, hlow.2.1.2.1, hlow.2.1.2.2.1, hlow.2.1.2.2.2⟩, lo_u (hlow.2.2.1) (by omega), ⟨lo_u (hlow.2.2.2.1) (by omega), lo_u (hlow.2.2.2.2.1) (by omega), lo_u (hlow.2.2.2.2.2.1) (by omega), lo_u (hlow.2.2.2.2.2.2) (by omega)⟩⟩) (Or.inl ⟨rfl, a7, (sk ta n a7 + 1), rfl, (okb_f (by unfold pSub; simp only [hu, h61, hv, if_neg huv, h91, h23, h45, h24, t93])), rfl, by omega⟩))
                    | false =>
                      rw [hdh24, if_neg (by decide)] at hrr
                      subst hrr
                      refine And.intro ir ?_
                      refine (And.intro (And.intro rfl (And.intro rfl (And.intro rfl (And.intro (by decide) (by decide))))) ?_)
                      refine Exists.intro f (Exists.intro R (Exists.intro ((th, tp, (nI n), (nI a7), (zb false), pl), ta, ((td, le, ge, re, lg, ne), (nn, nk, nr, nx), su, ((upd wa r (nI u)), (upd ot (nI r).toNatClampNeg (nI v)), (upd fm (nI r).toNatClampNeg (nI y)), (upd tz (nI r).toNatClampNeg (nI z)))), (rk, mr, un, bg, bf), kd, im) (Exists.intro n (Exists.intro a7 (Exists.intro false (Exists.intro 93 (And.intro ⟨rfl, rfl, h8, by omega⟩ (And.intro rfl (And.intro rfl (And.intro rfl (?_)))))))))))
                      have hbh93 := tk_le (tb := ta) (n := n) (a := a7) (c := 93) (by decide) (by omega)
                      rcases h93 : tk ta n a7 93 with ⟨_ | _, a8⟩
                      · rw [h93] at hbh93
                        dsimp only at hbh93
                        rw [mE_f (t := ((th, tp, (nI n), (nI a7), (zb false), pl), ta, ((td, le, ge, re, lg, ne), (nn, nk, nr, nx), su, ((upd wa r (nI u)), (upd ot (nI r).toNatClampNeg (nI v)), (upd fm (nI r).toNatClampNeg (nI y)), (upd tz (nI r).toNatClampNeg (nI z)))), (rk, mr, un, bg, bf), kd, im)) h93]
                        refine And.intro (zn_in (i := 1) (by decide) (by decide)) (And.intro (zn_in (i := 1) (by decide) (by decide)) ?_)
                        exact zz_ev0 (hk (nI (a8 + 1)) (zb true) (nI a8) ((td, le, ge, re, lg, ne), (nn, nk, nr, nx), (upd su 1 (su 1 + 1)), ((upd wa r (nI u)), (upd ot (nI r).toNatClampNeg (nI v)), (upd fm (nI r).toNatClampNeg (nI y)), (upd tz (nI r).toNatClampNeg (nI z)))) (by rw [er]; exact ⟨⟨hlow.1.1, hlow.1.2.1, hlow.1.2.2.1, hlow.1.2.2.2.1, hlow.1.2.2.2.2.1, hlow.1.2.2.2.2.2⟩, ⟨hlow.2.1.1, hlow.2.1.2.1, hlow.2.1.2.2.1, hlow.2.1.2.2.2⟩, lo_u (hlow.2.2.1) (by omega), ⟨lo_u (hlow.2.2.2.1) (by omega), lo_u (hlow.2.2.2.2.1) (by omega), lo_u (hlow.2.2.2.2.2.1) (by omega), lo_u (hlow.2.2.2.2.2.2) (by omega)⟩⟩) (Or.inl ⟨rfl, a8, (a8 + 1), rfl, (okb_f (by unfold pSub; simp only [hu, h61, hv, if_neg huv, h91, h23, h45, h24, h93])), rfl, by omega⟩))
                      · rw [h93] at hbh93
                        dsimp only at hbh93
                        rw [mE_t (t := ((th, tp, (nI n), (nI a7), (zb false), pl), ta, ((td, le, ge, re, lg, ne), (nn, nk, nr, nx), su, ((upd wa r (nI u)), (upd ot (nI r).toNatClampNeg (nI v)), (upd fm (nI r).toNatClampNeg (nI y)), (upd tz (nI r).toNatClampNeg (nI z)))), (rk, mr, un, bg, bf), kd, im)) h93]
                        have hrS := rel_sub (y := nI y) (z := nI z) hrel hq hbq (u := u) (v := v) (by omega) (by omega)
                        rw [← hr] at hrS
                        have hres : pSub ta n a b = (true, a8, bSub b (nI u) (nI v) (nI y) (nI z)) := by unfold pSub; simp only [hu, h61, hv, if_neg huv, h91, h23, h45, h24, h93]
                        rw [hres] at hk
                        refine And.intro (zn_in (i := 1) (by decide) (by decide)) (And.intro (zn_in (i := 1) (by decide) (by decide)) ?_)
                        exact zz_ev0 (hk (nI a8) (zb false) pl ((td, le, ge, re, lg, ne), (nn, nk, nr, nx), (upd su 1 (su 1 + 1)), ((upd wa r (nI u)), (upd ot (nI r).toNatClampNeg (nI v)), (upd fm (nI r).toNatClampNeg (nI y)), (upd tz (nI r).toNatClampNeg (nI z)))) (by rw [er]; exact ⟨⟨hlow.1.1, hlow.1.2.1, hlow.1.2.2.1, hlow.1.2.2.2.1, hlow.1.2.2.2.2.1, hlow.1.2.2.2.2.2⟩, ⟨hlow.2.1.1, hlow.2.1.2.1, hlow.2.1.2.2.1, hlow.2.1.2.2.2⟩, lo_u (hlow.2.2.1) (by omega), ⟨lo_u (hlow.2.2.2.1) (by omega), lo_u (hlow.2.2.2.2.1) (by omega), lo_u (hlow.2.2.2.2.2.1) (by omega), lo_u (hlow.2.2.2.2.2.2) (by omega)⟩⟩) (Or.inr ⟨rfl, rfl, rfl, rfl, hbh93.2.1, (by rw [er, hsu, nI_1]; exact hrS)⟩))
theorem recv_Mo_substitute : ∀ As ws k x, pt_Mo_substitute As ws k x → ∃ q As' fs, As = .ref q :: As' ∧ ws[q]? = some (.inr (7, fs)) := by
  rintro As ws k x ⟨f, R, t, n, a, q, b, hm, ha, hw, hr, hq, hb, rfl, rfl, hk⟩
  exact ⟨_, _, _, rfl, rfl⟩
