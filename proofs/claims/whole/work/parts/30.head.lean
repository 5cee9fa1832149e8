/-! ===== Parser: substitutes, rules, the text ===== -/
theorem nI_pr1 {a : Nat} (h : 0 < a) : nI a - 1 = nI (a - 1) := by
  have e : nI a = nI (a - 1) + 1 := by rw [nI_1]; congr 1; omega
  rw [e]; exact Int32.add_sub_cancel _ _
def bSub (b : qB) (u v y z : Int32) : qB := (b.1, b.2.1, b.2.2.1, (upd b.2.2.2.1.1 b.2.2.2.2.toNatClampNeg u, upd b.2.2.2.1.2.1 b.2.2.2.2.toNatClampNeg v, upd b.2.2.2.1.2.2.1 b.2.2.2.2.toNatClampNeg y, upd b.2.2.2.1.2.2.2 b.2.2.2.2.toNatClampNeg z), nI (b.2.2.2.2.toNatClampNeg + 1))
def pSub (tb : qA) (n a : Nat) (b : qB) : Bool × Nat × qB := match tsk tb n a with
  | (none, a1) => (false, a1, b)
  | (some u, a1) => match tk tb n a1 61 with
    | (false, a2) => (false, a2, b)
    | (true, a2) => match tsk tb n a2 with
      | (none, a3) => (false, a3, b)
      | (some v, a3) => if v = u then (false, a3 - 1, b) else match tk tb n a3 91 with
        | (false, a4) => (false, a4, b)
        | (true, a4) => match tn tb n a4 0 23 with
          | (none, a5) => (false, a5, b)
          | (some f, a5) => match tk tb n a5 45 with
            | (false, a6) => (false, a6, b)
            | (true, a6) => match tn tb n a6 0 23 with
              | (none, a7) => (false, a7, b)
              | (some g, a7) => match tk tb n a7 93 with
                | (false, a8) => (false, a8, b)
                | (true, a8) => (true, a8, bSub b (nI u) (nI v) (nI f) (nI g))
theorem nI_inj9 {u v : Nat} (hu : u < 1000) (hv : v < 1000) (h : nI u = nI v) : u = v := by
  have := congrArg Int32.toInt h
  rw [nI_toInt (by omega), nI_toInt (by omega)] at this
  omega
def pt_Pa_takeSubstitute : zz_PT := fun As ws k _ => ∃ (s : qC) (R : List va_E) (n a i : Nat), s.1.2 = nI n ∧ s.2.1 = nI a ∧ by8 s.1.1 n ∧ a ≤ n ∧ i < 10 ∧ s.2.2.2.2.2.2.1.2.2.2.2 = nI i ∧ As = [.ref 3, .ref (pS s.2.2.2.2.2.2.2.1)] ∧ ws = gC s ++ R ∧ k (some (.int (zb (pSub s.1.1 n a s.2.2.2.2.2.2.1).1))) (gC (s.1, nI (pSub s.1.1 n a s.2.2.2.2.2.2.1).2.1, s.2.2.1, s.2.2.2.1, s.2.2.2.2.1, s.2.2.2.2.2.1, (pSub s.1.1 n a s.2.2.2.2.2.2.1).2.2, s.2.2.2.2.2.2.2) ++ R)
set_option maxHeartbeats 4000000 in
set_option maxRecDepth 100000 in
theorem m_Pa_takeSubstitute (l : Launch) : zz_M zz_CL l y_Pa_takeSubstitute (Cond.code y_Pa_takeSubstitute c_Pa_takeSubstitute 6 (some .boolean) :: zz_big) (zz_rm 4 87 1 6) (2, false, 0, 0, pt_Pa_takeSubstitute) := by
  refine zz_M_of (HOST := "CrewRules") (L := [(0, 77, (1, false, 0, 0, pt_Pa_takeSkill)), (0, 30, (2, false, 0, 0, pt_Pa_take)), (0, 59, (3, false, 0, 0, pt_Pa_takeNumber)), (0, 84, (5, false, 0, 0, pt_Rb_addSubstitute))]) (sw := sw_Pa_takeSubstitute) (pg := pg_Pa_takeSubstitute) (th := th_Pa_takeSubstitute) (ini := false) (by decide +kernel) zz_static (fun h => nomatch h) (by decide) (by decide) ok_Pa_takeSubstitute (zz_cons (zz_ev_V (m_Pa_takeSkill l) yw_Pa_takeSkill yv_Pa_takeSkill lk_Pa_77 ⟨rfl, rfl, by decide, by decide⟩ (ci := 2) rfl recv_Pa_takeSkill) (zz_cons (zz_ev_V (m_Pa_take l) yw_Pa_take yv_Pa_take lk_Pa_30 ⟨rfl, rfl, by decide, by decide⟩ (ci := 2) rfl recv_Pa_take) (zz_cons (zz_ev_V (m_Pa_takeNumber l) yw_Pa_takeNumber yv_Pa_takeNumber lk_Pa_59 ⟨rfl, rfl, by decide, by decide⟩ (ci := 2) rfl recv_Pa_takeNumber) (zz_cons (zz_ev_V (m_Rb_addSubstitute l) yw_Rb_addSubstitute yv_Rb_addSubstitute lk_Pa_84 ⟨rfl, rfl, by decide, by decide⟩ (ci := 6) rfl recv_Rb_addSubstitute) zz_nil)))) (fun pc E h => (nomatch h)) (zz_VC0 160 ?_)
  rintro As ws k x ⟨⟨⟨tb, tl⟩, pa, ⟨rk, mr, fr, bf, un⟩, ⟨kd, sz, mb, co⟩, ⟨wh, hd, gs⟩, bk, ⟨⟨le, ge, re, lo, nc⟩, rc, ⟨nx, nn, nk, nr⟩, ⟨wa, si, fh, lh⟩, sc⟩, fl, wr⟩, R, n, a, i, h1, h2, h8, ha, hi, hc, rfl, rfl, hk⟩
  dsimp only at h1 h2 h8 hc hk
  subst h1; subst h2; subst hc
  have hn := h8.1
  refine ⟨Nat.le_of_ble_eq_true rfl, ?_⟩
  unfold pSub at hk
  refine (And.intro (And.intro rfl (And.intro rfl (And.intro rfl (And.intro (by decide) (by decide))))) ?_)
  refine Exists.intro ((tb, (nI n)), (nI a), (rk, mr, fr, bf, un), (kd, sz, mb, co), (wh, hd, gs), bk, ((le, ge, re, lo, nc), rc, (nx, nn, nk, nr), (wa, si, fh, lh), nI i), fl, wr) (Exists.intro R (Exists.intro n (Exists.intro a (And.intro rfl (And.intro rfl (And.intro h8 (And.intro (by omega) (And.intro rfl (And.intro rfl (?_))))))))))
  have hb1 := tsk_le h8 (show a ≤ n by omega)
  rcases ht1 : tsk tb n a with ⟨_ | u, a1⟩
  · rw [ht1] at hk hb1
    exact And.intro (fun _ => zz_eb (b := false) hk) (fun (q : ¬ rO none = -1) => absurd rfl q)
  · rw [ht1] at hk hb1
    dsimp only at hk hb1
    have hv1 := hb1.2.2 u rfl
    refine And.intro (fun (q : rO (some u) = -1) => absurd q (rO_some (by omega))) (fun _ => ?_)
    refine (And.intro (And.intro rfl (And.intro rfl (And.intro rfl (And.intro (by decide) (by decide))))) ?_)
    refine Exists.intro ((tb, (nI n)), (nI a1), (rk, mr, fr, bf, un), (kd, sz, mb, co), (wh, hd, gs), bk, ((le, ge, re, lo, nc), rc, (nx, nn, nk, nr), (wa, si, fh, lh), nI i), fl, wr) (Exists.intro R (Exists.intro n (Exists.intro a1 (Exists.intro 61 (And.intro rfl (And.intro rfl (And.intro hn (And.intro (by omega) (And.intro rfl (And.intro rfl (?_)))))))))))
    have hb2 := tk_le (tb := tb) (n := n) (a := a1) (c := 61) (by decide) (show a1 ≤ n by omega)
    rcases ht2 : tk tb n a1 61 with ⟨_ | _, a2⟩
    · rw [ht2] at hk hb2
      exact And.intro (fun (q : ¬ zb false = 0) => absurd rfl q) (fun _ => zz_eb (b := false) hk)
    · rw [ht2] at hk hb2
      dsimp only at hk hb2
      refine And.intro (fun _ => ?_) (fun (q : zb true = 0) => absurd q (by decide))
      refine (And.intro (And.intro rfl (And.intro rfl (And.intro rfl (And.intro (by decide) (by decide))))) ?_)
      refine Exists.intro ((tb, (nI n)), (nI a2), (rk, mr, fr, bf, un), (kd, sz, mb, co), (wh, hd, gs), bk, ((le, ge, re, lo, nc), rc, (nx, nn, nk, nr), (wa, si, fh, lh), nI i), fl, wr) (Exists.intro R (Exists.intro n (Exists.intro a2 (And.intro rfl (And.intro rfl (And.intro h8 (And.intro (by omega) (And.intro rfl (And.intro rfl (?_))))))))))
      have hb3 := tsk_le h8 (show a2 ≤ n by omega)
      rcases ht3 : tsk tb n a2 with ⟨_ | v, a3⟩
      · rw [ht3] at hk hb3
        exact And.intro (fun (q : ¬ rO none = -1) => absurd rfl q) (fun _ => zz_eb (b := false) hk)
      · rw [ht3] at hk hb3
        dsimp only at hk hb3
        have hv3 := hb3.2.2 v rfl
        refine And.intro (fun _ => ?_) (fun (q : rO (some v) = -1) => absurd q (rO_some (by omega)))
        by_cases hq : v = u
        · rw [if_pos hq] at hk
          refine And.intro (fun (q : ¬ nI v = nI u) => absurd (by rw [hq]) q) (fun _ => ?_)
          dsimp only at hk
          rw [← nI_pr1 (a := a3) (by omega)] at hk
          exact zz_eb (b := false) hk
        · rw [if_neg hq] at hk
          refine And.intro (fun _ => ?_) (fun (q : nI v = nI u) => absurd (nI_inj9 (by omega) (by omega) q) hq)
          refine (And.intro (And.intro rfl (And.intro rfl (And.intro rfl (And.intro (by decide) (by decide))))) ?_)
          refine Exists.intro ((tb, (nI n)), (nI a3), (rk, mr, fr, bf, un), (kd, sz, mb, co), (wh, hd, gs), bk, ((le, ge, re, lo, nc), rc, (nx, nn, nk, nr), (wa, si, fh, lh), nI i), fl, wr) (Exists.intro R (Exists.intro n (Exists.intro a3 (Exists.intro 91 (And.intro rfl (And.intro rfl (And.intro hn (And.intro (by omega) (And.intro rfl (And.intro rfl (?_)))))))))))
          have hb4 := tk_le (tb := tb) (n := n) (a := a3) (c := 91) (by decide) (show a3 ≤ n by omega)
          rcases ht4 : tk tb n a3 91 with ⟨_ | _, a4⟩
          · rw [ht4] at hk hb4
            exact And.intro (fun (q : ¬ zb false = 0) => absurd rfl q) (fun _ => zz_eb (b := false) hk)
          · rw [ht4] at hk hb4
            dsimp only at hk hb4
            refine And.intro (fun _ => ?_) (fun (q : zb true = 0) => absurd q (by decide))
            refine (And.intro (And.intro rfl (And.intro rfl (And.intro rfl (And.intro (by decide) (by decide))))) ?_)
            refine Exists.intro ((tb, (nI n)), (nI a4), (rk, mr, fr, bf, un), (kd, sz, mb, co), (wh, hd, gs), bk, ((le, ge, re, lo, nc), rc, (nx, nn, nk, nr), (wa, si, fh, lh), nI i), fl, wr) (Exists.intro R (Exists.intro n (Exists.intro a4 (Exists.intro 0 (Exists.intro 23 (And.intro rfl (And.intro rfl (And.intro h8 (And.intro (by omega) (And.intro (by omega) (And.intro (by omega) (And.intro rfl (And.intro rfl (?_))))))))))))))
            have hb5 := tn_le (lo := 0) (hi := 23) h8 (show a4 ≤ n by omega)
            rcases ht5 : tn tb n a4 0 23 with ⟨_ | f, a5⟩
            · rw [ht5] at hk hb5
              exact And.intro (fun _ => zz_eb (b := false) hk) (fun (q : ¬ rO none = -1) => absurd rfl q)
            · rw [ht5] at hk hb5
              dsimp only at hk hb5
              have hv5 := hb5.2.2 f rfl
              refine And.intro (fun (q : rO (some f) = -1) => absurd q (rO_some (by omega))) (fun _ => ?_)
              refine (And.intro (And.intro rfl (And.intro rfl (And.intro rfl (And.intro (by decide) (by decide))))) ?_)
              refine Exists.intro ((tb, (nI n)), (nI a5), (rk, mr, fr, bf, un), (kd, sz, mb, co), (wh, hd, gs), bk, ((le, ge, re, lo, nc), rc, (nx, nn, nk, nr), (wa, si, fh, lh), nI i), fl, wr) (Exists.intro R (Exists.intro n (Exists.intro a5 (Exists.intro 45 (And.intro rfl (And.intro rfl (And.intro hn (And.intro (by omega) (And.intro rfl (And.intro rfl (?_)))))))))))
              have hb6 := tk_le (tb := tb) (n := n) (a := a5) (c := 45) (by decide) (show a5 ≤ n by omega)
              rcases ht6 : tk tb n a5 45 with ⟨_ | _, a6⟩
              · rw [ht6] at hk hb6
                exact And.intro (fun (q : ¬ zb false = 0) => absurd rfl q) (fun _ => zz_eb (b := false) hk)
              · rw [ht6] at hk hb6
                dsimp only at hk hb6
                refine And.intro (fun _ => ?_) (fun (q : zb true = 0) => absurd q (by decide))
                refine (And.intro (And.intro rfl (And.intro rfl (And.intro rfl (And.intro (by decide) (by decide))))) ?_)
                refine Exists.intro ((tb, (nI n)), (nI a6), (rk, mr, fr, bf, un), (kd, sz, mb, co), (wh, hd, gs), bk, ((le, ge, re, lo, nc), rc, (nx, nn, nk, nr), (wa, si, fh, lh), nI i), fl, wr) (Exists.intro R (Exists.intro n (Exists.intro a6 (Exists.intro 0 (Exists.intro 23 (And.intro rfl (And.intro rfl (And.intro h8 (And.intro (by omega) (And.intro (by omega) (And.intro (by omega) (And.intro rfl (And.intro rfl (?_))))))))))))))
                have hb7 := tn_le (lo := 0) (hi := 23) h8 (show a6 ≤ n by omega)
                rcases ht7 : tn tb n a6 0 23 with ⟨_ | g, a7⟩
                · rw [ht7] at hk hb7
                  exact And.intro (fun _ => zz_eb (b := false) hk) (fun (q : ¬ rO none = -1) => absurd rfl q)
                · rw [ht7] at hk hb7
                  dsimp only at hk hb7
                  have hv7 := hb7.2.2 g rfl
                  refine And.intro (fun (q : rO (some g) = -1) => absurd q (rO_some (by omega))) (fun _ => ?_)
                  refine (And.intro (And.intro rfl (And.intro rfl (And.intro rfl (And.intro (by decide) (by decide))))) ?_)
                  refine Exists.intro ((tb, (nI n)), (nI a7), (rk, mr, fr, bf, un), (kd, sz, mb, co), (wh, hd, gs), bk, ((le, ge, re, lo, nc), rc, (nx, nn, nk, nr), (wa, si, fh, lh), nI i), fl, wr) (Exists.intro R (Exists.intro n (Exists.intro a7 (Exists.intro 93 (And.intro rfl (And.intro rfl (And.intro hn (And.intro (by omega) (And.intro rfl (And.intro rfl (?_)))))))))))
                  have hb8 := tk_le (tb := tb) (n := n) (a := a7) (c := 93) (by decide) (show a7 ≤ n by omega)
                  rcases ht8 : tk tb n a7 93 with ⟨_ | _, a8⟩
                  · rw [ht8] at hk hb8
                    exact And.intro (fun (q : ¬ zb false = 0) => absurd rfl q) (fun _ => zz_eb (b := false) hk)
                  · rw [ht8] at hk hb8
                    dsimp only at hk hb8
                    refine And.intro (fun _ => ?_) (fun (q : zb true = 0) => absurd q (by decide))
                    refine (And.intro (And.intro rfl (And.intro rfl (And.intro rfl (And.intro (by decide) (by decide))))) ?_)
                    unfold bSub at hk
                    dsimp only at hk
                    rw [nI_clamp (show i < 2 ^ 31 by omega)] at hk
                    cases fl
                    · refine Exists.intro true (Exists.intro [.ref 1, .ref 3, .ref 4, .ref 10, .ref 15, .ref 18, .ref 32, .int wr] (Exists.intro ((tb, nI n), nI a8, (rk, mr, fr, bf, un), (kd, sz, mb, co), (wh, hd, gs)) (Exists.intro bk (Exists.intro R (Exists.intro ((le, ge, re, lo, nc), rc, (nx, nn, nk, nr), (wa, si, fh, lh), nI i) (Exists.intro i (Exists.intro (nI u) (Exists.intro (nI v) (Exists.intro (nI f) (Exists.intro (nI g) (And.intro hi (And.intro rfl (And.intro rfl (And.intro rfl (?_)))))))))))))))
                      exact zz_eb (b := true) hk
                    · refine Exists.intro false (Exists.intro [.ref 1, .ref 3, .ref 4, .ref 10, .ref 15, .ref 32, .ref 18, .int wr] (Exists.intro ((tb, nI n), nI a8, (rk, mr, fr, bf, un), (kd, sz, mb, co), (wh, hd, gs)) (Exists.intro bk (Exists.intro (gB 32 bk ++ R) (Exists.intro ((le, ge, re, lo, nc), rc, (nx, nn, nk, nr), (wa, si, fh, lh), nI i) (Exists.intro i (Exists.intro (nI u) (Exists.intro (nI v) (Exists.intro (nI f) (Exists.intro (nI g) (And.intro hi (And.intro rfl (And.intro rfl (And.intro rfl (?_)))))))))))))))
                      exact zz_eb (b := true) hk
theorem recv_Pa_takeSubstitute : ∀ As ws k x, pt_Pa_takeSubstitute As ws k x → ∃ q As' fs, As = .ref q :: As' ∧ ws[q]? = some (.inr (2, fs)) := by
  rintro As ws k x ⟨s, R, n, a, i, h1, h2, h8, ha, hi, hc, rfl, rfl, hk⟩
  exact ⟨_, _, _, rfl, rfl⟩
/-- one rule more -/
def bRule (b : qB) (j : Nat) (u v : Int32) : qB := ((upd b.1.1 j u, upd b.1.2.1 j v, upd b.1.2.2.1 j (-1), upd b.1.2.2.2.1 j (-1), upd b.1.2.2.2.2 j 0), b.2.1 + 1, b.2.2)
def pHead (tb : qA) (n a : Nat) (b : qB) : Option Nat × Nat × qB := match tn tb n a 1 9 with
  | (none, a1) => (none, a1, b)
  | (some j, a1) => if b.1.1 j = -1 then (match tk tb n a1 58 with
      | (false, a2) => (none, a2, b)
      | (true, a2) => match tn tb n a2 0 9 with
        | (none, a3) => (none, a3, b)
        | (some u, a3) => match tk tb n a3 45 with
          | (false, a4) => (none, a4, b)
          | (true, a4) => match tn tb n a4 u 9 with
            | (none, a5) => (none, a5, b)
            | (some v, a5) => (some j, a5, bRule b j (nI u) (nI v)))
    else (none, a1 - 1, b)
def pt_Pa_takeRuleHead : zz_PT := fun As ws k _ => ∃ (s : qC) (R : List va_E) (n a : Nat), s.1.2 = nI n ∧ s.2.1 = nI a ∧ by8 s.1.1 n ∧ a ≤ n ∧ As = [.ref 3, .ref (pS s.2.2.2.2.2.2.2.1)] ∧ ws = gC s ++ R ∧ k (some (.int (rO (pHead s.1.1 n a s.2.2.2.2.2.2.1).1))) (gC (s.1, nI (pHead s.1.1 n a s.2.2.2.2.2.2.1).2.1, s.2.2.1, s.2.2.2.1, s.2.2.2.2.1, s.2.2.2.2.2.1, (pHead s.1.1 n a s.2.2.2.2.2.2.1).2.2, s.2.2.2.2.2.2.2) ++ R)
set_option maxHeartbeats 4000000 in
set_option maxRecDepth 100000 in
theorem m_Pa_takeRuleHead (l : Launch) : zz_M zz_CL l y_Pa_takeRuleHead (Cond.code y_Pa_takeRuleHead c_Pa_takeRuleHead 5 (some .int) :: zz_big) (zz_rm 4 87 1 6) (2, false, 0, 0, pt_Pa_takeRuleHead) := by
  refine zz_M_of (HOST := "CrewRules") (L := [(0, 59, (3, false, 0, 0, pt_Pa_takeNumber)), (0, 63, (2, false, 0, 0, pt_Rb_has)), (0, 30, (2, false, 0, 0, pt_Pa_take)), (0, 66, (4, false, 0, 0, pt_Rb_addRule))]) (sw := sw_Pa_takeRuleHead) (pg := pg_Pa_takeRuleHead) (th := th_Pa_takeRuleHead) (ini := false) (by decide +kernel) zz_static (fun h => nomatch h) (by decide) (by decide) ok_Pa_takeRuleHead (zz_cons (zz_ev_V (m_Pa_takeNumber l) yw_Pa_takeNumber yv_Pa_takeNumber lk_Pa_59 ⟨rfl, rfl, by decide, by decide⟩ (ci := 2) rfl recv_Pa_takeNumber) (zz_cons (zz_ev_V (m_Rb_has l) yw_Rb_has yv_Rb_has lk_Pa_63 ⟨rfl, rfl, by decide, by decide⟩ (ci := 6) rfl recv_Rb_has) (zz_cons (zz_ev_V (m_Pa_take l) yw_Pa_take yv_Pa_take lk_Pa_30 ⟨rfl, rfl, by decide, by decide⟩ (ci := 2) rfl recv_Pa_take) (zz_cons (zz_ev_V (m_Rb_addRule l) yw_Rb_addRule yv_Rb_addRule lk_Pa_66 ⟨rfl, rfl, by decide, by decide⟩ (ci := 6) rfl recv_Rb_addRule) zz_nil)))) (fun pc E h => (nomatch h)) (zz_VC0 160 ?_)
  rintro As ws k x ⟨⟨⟨tb, tl⟩, pa, ⟨rk, mr, fr, bf, un⟩, ⟨kd, sz, mb, co⟩, ⟨wh, hd, gs⟩, bk, ⟨⟨le, ge, re, lo, nc⟩, rc, ⟨nx, nn, nk, nr⟩, ⟨wa, si, fh, lh⟩, sc⟩, fl, wr⟩, R, n, a, h1, h2, h8, ha, rfl, rfl, hk⟩
  dsimp only at h1 h2 h8 hk
  subst h1; subst h2
  have hn := h8.1
  refine ⟨Nat.le_of_ble_eq_true rfl, ?_⟩
  unfold pHead at hk
  dsimp only at hk
  cases fl
  · skip
    refine (And.intro (And.intro rfl (And.intro rfl (And.intro rfl (And.intro (by decide) (by decide))))) ?_)
    refine Exists.intro ((tb, (nI n)), (nI a), (rk, mr, fr, bf, un), (kd, sz, mb, co), (wh, hd, gs), bk, ((le, ge, re, lo, nc), rc, (nx, nn, nk, nr), (wa, si, fh, lh), sc), false, wr) (Exists.intro R (Exists.intro n (Exists.intro a (Exists.intro 1 (Exists.intro 9 (And.intro rfl (And.intro rfl (And.intro h8 (And.intro (by omega) (And.intro (by omega) (And.intro (by omega) (And.intro rfl (And.intro rfl (?_))))))))))))))
    have hb1 := tn_le (lo := 1) (hi := 9) h8 (show a ≤ n by omega)
    rcases ht1 : tn tb n a 1 9 with ⟨_ | j, a1⟩
    · rw [ht1] at hk hb1
      exact And.intro (fun (q : ¬ rO none = -1) => absurd rfl q) (fun _ => zz_e0 hk)
    · rw [ht1] at hk hb1
      dsimp only at hk hb1
      have hv1 := hb1.2.2 j rfl
      refine And.intro (fun _ => ?_) (fun (q : rO (some j) = -1) => absurd q (rO_some (by omega)))
      refine (And.intro (And.intro rfl (And.intro rfl (And.intro rfl (And.intro (by decide) (by decide))))) ?_)
      refine Exists.intro true (Exists.intro [.ref 1, .ref 3, .ref 4, .ref 10, .ref 15, .ref 18, .ref 32, .int wr] (Exists.intro ((tb, nI n), nI a1, (rk, mr, fr, bf, un), (kd, sz, mb, co), (wh, hd, gs)) (Exists.intro bk (Exists.intro R (Exists.intro ((le, ge, re, lo, nc), rc, (nx, nn, nk, nr), (wa, si, fh, lh), sc) (Exists.intro j (And.intro (by omega) (And.intro rfl (And.intro rfl (?_))))))))))
      by_cases hq : le j = -1
      · rw [if_pos hq] at hk
        refine And.intro (fun _ => ?_) (fun (q : ¬ zb (!decide (le j = -1)) = 0) => absurd (by rw [decide_eq_true hq]; rfl) q)
        refine (And.intro (And.intro rfl (And.intro rfl (And.intro rfl (And.intro (by decide) (by decide))))) ?_)
        refine Exists.intro ((tb, (nI n)), (nI a1), (rk, mr, fr, bf, un), (kd, sz, mb, co), (wh, hd, gs), bk, ((le, ge, re, lo, nc), rc, (nx, nn, nk, nr), (wa, si, fh, lh), sc), false, wr) (Exists.intro R (Exists.intro n (Exists.intro a1 (Exists.intro 58 (And.intro rfl (And.intro rfl (And.intro hn (And.intro (by omega) (And.intro rfl (And.intro rfl (?_)))))))))))
        have hb2 := tk_le (tb := tb) (n := n) (a := a1) (c := 58) (by decide) (show a1 ≤ n by omega)
        rcases ht2 : tk tb n a1 58 with ⟨_ | _, a2⟩
        · rw [ht2] at hk hb2
          exact And.intro (fun (q : ¬ zb false = 0) => absurd rfl q) (fun _ => zz_e0 hk)
        · rw [ht2] at hk hb2
          dsimp only at hk hb2
          refine And.intro (fun _ => ?_) (fun (q : zb true = 0) => absurd q (by decide))
          refine (And.intro (And.intro rfl (And.intro rfl (And.intro rfl (And.intro (by decide) (by decide))))) ?_)
          refine Exists.intro ((tb, (nI n)), (nI a2), (rk, mr, fr, bf, un), (kd, sz, mb, co), (wh, hd, gs), bk, ((le, ge, re, lo, nc), rc, (nx, nn, nk, nr), (wa, si, fh, lh), sc), false, wr) (Exists.intro R (Exists.intro n (Exists.intro a2 (Exists.intro 0 (Exists.intro 9 (And.intro rfl (And.intro rfl (And.intro h8 (And.intro (by omega) (And.intro (by omega) (And.intro (by omega) (And.intro rfl (And.intro rfl (?_))))))))))))))
          have hb3 := tn_le (lo := 0) (hi := 9) h8 (show a2 ≤ n by omega)
          rcases ht3 : tn tb n a2 0 9 with ⟨_ | u, a3⟩
          · rw [ht3] at hk hb3
            exact And.intro (fun _ => zz_e0 hk) (fun (q : ¬ rO none = -1) => absurd rfl q)
          · rw [ht3] at hk hb3
            dsimp only at hk hb3
            have hv3 := hb3.2.2 u rfl
            refine And.intro (fun (q : rO (some u) = -1) => absurd q (rO_some (by omega))) (fun _ => ?_)
            refine (And.intro (And.intro rfl (And.intro rfl (And.intro rfl (And.intro (by decide) (by decide))))) ?_)
            refine Exists.intro ((tb, (nI n)), (nI a3), (rk, mr, fr, bf, un), (kd, sz, mb, co), (wh, hd, gs), bk, ((le, ge, re, lo, nc), rc, (nx, nn, nk, nr), (wa, si, fh, lh), sc), false, wr) (Exists.intro R (Exists.intro n (Exists.intro a3 (Exists.intro 45 (And.intro rfl (And.intro rfl (And.intro hn (And.intro (by omega) (And.intro rfl (And.intro rfl (?_)))))))))))
            have hb4 := tk_le (tb := tb) (n := n) (a := a3) (c := 45) (by decide) (show a3 ≤ n by omega)
            rcases ht4 : tk tb n a3 45 with ⟨_ | _, a4⟩
            · rw [ht4] at hk hb4
              exact And.intro (fun (q : ¬ zb false = 0) => absurd rfl q) (fun _ => zz_e0 hk)
            · rw [ht4] at hk hb4
              dsimp only at hk hb4
              refine And.intro (fun _ => ?_) (fun (q : zb true = 0) => absurd q (by decide))
              refine (And.intro (And.intro rfl (And.intro rfl (And.intro rfl (And.intro (by decide) (by decide))))) ?_)
              refine Exists.intro ((tb, (nI n)), (nI a4), (rk, mr, fr, bf, un), (kd, sz, mb, co), (wh, hd, gs), bk, ((le, ge, re, lo, nc), rc, (nx, nn, nk, nr), (wa, si, fh, lh), sc), false, wr) (Exists.intro R (Exists.intro n (Exists.intro a4 (Exists.intro u (Exists.intro 9 (And.intro rfl (And.intro rfl (And.intro h8 (And.intro (by omega) (And.intro (by omega) (And.intro (by omega) (And.intro rfl (And.intro rfl (?_))))))))))))))
              have hb5 := tn_le (lo := u) (hi := 9) h8 (show a4 ≤ n by omega)
              rcases ht5 : tn tb n a4 u 9 with ⟨_ | v, a5⟩
              · rw [ht5] at hk hb5
                exact And.intro (fun (q : ¬ rO none = -1) => absurd rfl q) (fun _ => zz_e0 hk)
              · rw [ht5] at hk hb5
                dsimp only at hk hb5
                have hv5 := hb5.2.2 v rfl
                refine And.intro (fun _ => ?_) (fun (q : rO (some v) = -1) => absurd q (rO_some (by omega)))
                refine (And.intro (And.intro rfl (And.intro rfl (And.intro rfl (And.intro (by decide) (by decide))))) ?_)
                refine Exists.intro true (Exists.intro [.ref 1, .ref 3, .ref 4, .ref 10, .ref 15, .ref 18, .ref 32, .int wr] (Exists.intro ((tb, nI n), nI a5, (rk, mr, fr, bf, un), (kd, sz, mb, co), (wh, hd, gs)) (Exists.intro bk (Exists.intro R (Exists.intro ((le, ge, re, lo, nc), rc, (nx, nn, nk, nr), (wa, si, fh, lh), sc) (Exists.intro j (Exists.intro (nI u) (Exists.intro (nI v) (And.intro (by omega) (And.intro rfl (And.intro rfl (?_))))))))))))
                exact zz_e0 hk
      · rw [if_neg hq] at hk
        refine And.intro (fun (q : zb (!decide (le j = -1)) = 0) => absurd (by rw [decide_eq_false hq] at q; exact q) (by decide)) (fun _ => ?_)
        dsimp only at hk
        rw [← nI_pr1 (a := a1) (by omega)] at hk
        exact zz_e0 hk
  · skip
    refine (And.intro (And.intro rfl (And.intro rfl (And.intro rfl (And.intro (by decide) (by decide))))) ?_)
    refine Exists.intro ((tb, (nI n)), (nI a), (rk, mr, fr, bf, un), (kd, sz, mb, co), (wh, hd, gs), bk, ((le, ge, re, lo, nc), rc, (nx, nn, nk, nr), (wa, si, fh, lh), sc), true, wr) (Exists.intro R (Exists.intro n (Exists.intro a (Exists.intro 1 (Exists.intro 9 (And.intro rfl (And.intro rfl (And.intro h8 (And.intro (by omega) (And.intro (by omega) (And.intro (by omega) (And.intro rfl (And.intro rfl (?_))))))))))))))
    have hb1 := tn_le (lo := 1) (hi := 9) h8 (show a ≤ n by omega)
    rcases ht1 : tn tb n a 1 9 with ⟨_ | j, a1⟩
    · rw [ht1] at hk hb1
      exact And.intro (fun (q : ¬ rO none = -1) => absurd rfl q) (fun _ => zz_e0 hk)
    · rw [ht1] at hk hb1
      dsimp only at hk hb1
      have hv1 := hb1.2.2 j rfl
      refine And.intro (fun _ => ?_) (fun (q : rO (some j) = -1) => absurd q (rO_some (by omega)))
      refine (And.intro (And.intro rfl (And.intro rfl (And.intro rfl (And.intro (by decide) (by decide))))) ?_)
      refine Exists.intro false (Exists.intro [.ref 1, .ref 3, .ref 4, .ref 10, .ref 15, .ref 32, .ref 18, .int wr] (Exists.intro ((tb, nI n), nI a1, (rk, mr, fr, bf, un), (kd, sz, mb, co), (wh, hd, gs)) (Exists.intro bk (Exists.intro (gB 32 bk ++ R) (Exists.intro ((le, ge, re, lo, nc), rc, (nx, nn, nk, nr), (wa, si, fh, lh), sc) (Exists.intro j (And.intro (by omega) (And.intro rfl (And.intro rfl (?_))))))))))
      by_cases hq : le j = -1
      · rw [if_pos hq] at hk
        refine And.intro (fun _ => ?_) (fun (q : ¬ zb (!decide (le j = -1)) = 0) => absurd (by rw [decide_eq_true hq]; rfl) q)
        refine (And.intro (And.intro rfl (And.intro rfl (And.intro rfl (And.intro (by decide) (by decide))))) ?_)
        refine Exists.intro ((tb, (nI n)), (nI a1), (rk, mr, fr, bf, un), (kd, sz, mb, co), (wh, hd, gs), bk, ((le, ge, re, lo, nc), rc, (nx, nn, nk, nr), (wa, si, fh, lh), sc), true, wr) (Exists.intro R (Exists.intro n (Exists.intro a1 (Exists.intro 58 (And.intro rfl (And.intro rfl (And.intro hn (And.intro (by omega) (And.intro rfl (And.intro rfl (?_)))))))))))
        have hb2 := tk_le (tb := tb) (n := n) (a := a1) (c := 58) (by decide) (show a1 ≤ n by omega)
        rcases ht2 : tk tb n a1 58 with ⟨_ | _, a2⟩
        · rw [ht2] at hk hb2
          exact And.intro (fun (q : ¬ zb false = 0) => absurd rfl q) (fun _ => zz_e0 hk)
        · rw [ht2] at hk hb2
          dsimp only at hk hb2
          refine And.intro (fun _ => ?_) (fun (q : zb true = 0) => absurd q (by decide))
          refine (And.intro (And.intro rfl (And.intro rfl (And.intro rfl (And.intro (by decide) (by decide))))) ?_)
          refine Exists.intro ((tb, (nI n)), (nI a2), (rk, mr, fr, bf, un), (kd, sz, mb, co), (wh, hd, gs), bk, ((le, ge, re, lo, nc), rc, (nx, nn, nk, nr), (wa, si, fh, lh), sc), true, wr) (Exists.intro R (Exists.intro n (Exists.intro a2 (Exists.intro 0 (Exists.intro 9 (And.intro rfl (And.intro rfl (And.intro h8 (And.intro (by omega) (And.intro (by omega) (And.intro (by omega) (And.intro rfl (And.intro rfl (?_))))))))))))))
          have hb3 := tn_le (lo := 0) (hi := 9) h8 (show a2 ≤ n by omega)
          rcases ht3 : tn tb n a2 0 9 with ⟨_ | u, a3⟩
          · rw [ht3] at hk hb3
            exact And.intro (fun _ => zz_e0 hk) (fun (q : ¬ rO none = -1) => absurd rfl q)
          · rw [ht3] at hk hb3
            dsimp only at hk hb3
            have hv3 := hb3.2.2 u rfl
            refine And.intro (fun (q : rO (some u) = -1) => absurd q (rO_some (by omega))) (fun _ => ?_)
            refine (And.intro (And.intro rfl (And.intro rfl (And.intro rfl (And.intro (by decide) (by decide))))) ?_)
            refine Exists.intro ((tb, (nI n)), (nI a3), (rk, mr, fr, bf, un), (kd, sz, mb, co), (wh, hd, gs), bk, ((le, ge, re, lo, nc), rc, (nx, nn, nk, nr), (wa, si, fh, lh), sc), true, wr) (Exists.intro R (Exists.intro n (Exists.intro a3 (Exists.intro 45 (And.intro rfl (And.intro rfl (And.intro hn (And.intro (by omega) (And.intro rfl (And.intro rfl (?_)))))))))))
            have hb4 := tk_le (tb := tb) (n := n) (a := a3) (c := 45) (by decide) (show a3 ≤ n by omega)
            rcases ht4 : tk tb n a3 45 with ⟨_ | _, a4⟩
            · rw [ht4] at hk hb4
              exact And.intro (fun (q : ¬ zb false = 0) => absurd rfl q) (fun _ => zz_e0 hk)
            · rw [ht4] at hk hb4
              dsimp only at hk hb4
              refine And.intro (fun _ => ?_) (fun (q : zb true = 0) => absurd q (by decide))
              refine (And.intro (And.intro rfl (And.intro rfl (And.intro rfl (And.intro (by decide) (by decide))))) ?_)
              refine Exists.intro ((tb, (nI n)), (nI a4), (rk, mr, fr, bf, un), (kd, sz, mb, co), (wh, hd, gs), bk, ((le, ge, re, lo, nc), rc, (nx, nn, nk, nr), (wa, si, fh, lh), sc), true, wr) (Exists.intro R (Exists.intro n (Exists.intro a4 (Exists.intro u (Exists.intro 9 (And.intro rfl (And.intro rfl (And.intro h8 (And.intro (by omega) (And.intro (by omega) (And.intro (by omega) (And.intro rfl (And.intro rfl (?_))))))))))))))
              have hb5 := tn_le (lo := u) (hi := 9) h8 (show a4 ≤ n by omega)
              rcases ht5 : tn tb n a4 u 9 with ⟨_ | v, a5⟩
              · rw [ht5] at hk hb5
                exact And.intro (fun (q : ¬ rO none = -1) => absurd rfl q) (fun _ => zz_e0 hk)
              · rw [ht5] at hk hb5
                dsimp only at hk hb5
                have hv5 := hb5.2.2 v rfl
                refine And.intro (fun _ => ?_) (fun (q : rO (some v) = -1) => absurd q (rO_some (by omega)))
                refine (And.intro (And.intro rfl (And.intro rfl (And.intro rfl (And.intro (by decide) (by decide))))) ?_)
                refine Exists.intro false (Exists.intro [.ref 1, .ref 3, .ref 4, .ref 10, .ref 15, .ref 32, .ref 18, .int wr] (Exists.intro ((tb, nI n), nI a5, (rk, mr, fr, bf, un), (kd, sz, mb, co), (wh, hd, gs)) (Exists.intro bk (Exists.intro (gB 32 bk ++ R) (Exists.intro ((le, ge, re, lo, nc), rc, (nx, nn, nk, nr), (wa, si, fh, lh), sc) (Exists.intro j (Exists.intro (nI u) (Exists.intro (nI v) (And.intro (by omega) (And.intro rfl (And.intro rfl (?_))))))))))))
                exact zz_e0 hk
      · rw [if_neg hq] at hk
        refine And.intro (fun (q : zb (!decide (le j = -1)) = 0) => absurd (by rw [decide_eq_false hq] at q; exact q) (by decide)) (fun _ => ?_)
        dsimp only at hk
        rw [← nI_pr1 (a := a1) (by omega)] at hk
        exact zz_e0 hk
theorem recv_Pa_takeRuleHead : ∀ As ws k x, pt_Pa_takeRuleHead As ws k x → ∃ q As' fs, As = .ref q :: As' ∧ ws[q]? = some (.inr (2, fs)) := by
  rintro As ws k x ⟨s, R, n, a, h1, h2, h8, ha, rfl, rfl, hk⟩
  exact ⟨_, _, _, rfl, rfl⟩
