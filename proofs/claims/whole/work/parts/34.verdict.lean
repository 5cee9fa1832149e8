/-! ===== CrewRules: verdict, rule, sign, read ===== -/
theorem fN_lt {f : Nat → Bool} {i : Nat} : ∀ {j : Nat}, fN f j = some i → i < j ∧ f i = true := by
  intro j
  induction j with
  | zero => intro h; cases h
  | succ j ih =>
    intro h
    unfold fN at h
    cases e : fN f j with
    | some z => rw [e] at h; cases h; exact ⟨Nat.lt_succ_of_lt (ih e).1, (ih e).2⟩
    | none =>
      rw [e] at h
      cases d : f j with
      | true => rw [d] at h; cases h; exact ⟨Nat.lt_succ_self _, d⟩
      | false => rw [d] at h; cases h
def aVerd (p : qP) (b : qB) (L : List Nat) (sh : Bool) (j : Nat) (h : Int32) : Int32 := if b.1.1 j = -1 then 1 else bif sh then 2 else if nI L.length < b.1.1 j then 3 else if b.1.2.1 j < nI L.length then 4 else bif !decide (b.1.2.2.1 j = -1) && L.any (fun i => pr p.2.2.1 p.2.2.2.1 i (b.1.2.2.1 j)) then 5 else bif !decide (b.1.2.2.2.1 j = -1) && L.any (go p.2.2.1 (b.1.2.2.2.1 j) h) then 6 else match fN (nU p b L h j) (b.1.2.2.2.2 j).toNatClampNeg with
  | none => 0
  | some i => 10 + nI i
def oVerdict (c h : Int32) : Nat := bif !iR 0 19 c then 1 else bif !iR 0 99999 h then 2 else 0
def aVerdict (s : qC) (c h : Int32) : Int32 := aVerd s.2.2.1 s.2.2.2.2.2.1 (sG s c) (cs s.2.2.2.1.2.2.1 s.2.2.2.1.2.2.2 c.toNatClampNeg 50) (s.2.2.2.1.1 c.toNatClampNeg).toNatClampNeg h
/-- every crew has a kind -/
def wfK (kd : qA) : Prop := ∀ c, c < 20 → ∃ j, 1 ≤ j ∧ j < 10 ∧ kd c = nI j
def pt_Cr_verdict : zz_PT := fun As ws k x => ∃ (s : qC) (R : List va_E) (c h : Int32), wfB s.2.2.2.2.2.1 ∧ wfK s.2.2.2.1.1 ∧ As = [.ref 0, .int c, .int h] ∧ ws = gC s ++ R ∧ zo (oVerdict c h) (x "java/lang/IllegalArgumentException" ws) (x "java/lang/IndexOutOfBoundsException" ws) False (∀ g : qG, k (some (.int (aVerdict s c h))) (gC (uG s g) ++ R))
set_option maxHeartbeats 4000000 in
set_option maxRecDepth 100000 in
theorem m_Cr_verdict (l : Launch) (hl : l.stackTraces = false) : zz_M zz_CL l y_Cr_verdict (Cond.code y_Cr_verdict c_Cr_verdict 5 (some .int) :: zz_big) (zz_rm 7 115 1 6) (3, false, 0, 0, pt_Cr_verdict) := by
  refine zz_M_of (HOST := "CrewRules") (L := [(1, 128, (1, false, 0, 0, pt_Cr_requireCrew)), (1, 114, (1, false, 0, 0, pt_Cr_requireHour)), (0, 156, (2, false, 0, 0, pt_Rb_has)), (0, 159, (2, false, 0, 0, pt_Cw_sharesSomeone)), (0, 162, (2, false, 0, 0, pt_Gr_gatherCrew)), (0, 177, (2, false, 0, 0, pt_Gr_someoneRestedLessThan)), (0, 183, (3, false, 0, 0, pt_Gr_someoneOnDutyBeyond)), (0, 186, (3, false, 0, 0, pt_Cr_firstUnmetNeed))]) (sw := sw_Cr_verdict) (pg := pg_Cr_verdict) (th := th_Cr_verdict) (ini := false) (by decide +kernel) zz_static (fun h => nomatch h) (by decide) (by decide) ok_Cr_verdict (zz_cons (zz_ev_S (m_Cr_requireCrew l hl) yw_Cr_requireCrew ys_Cr_requireCrew lk_Cr_128 ⟨rfl, rfl, by decide, by decide⟩) (zz_cons (zz_ev_S (m_Cr_requireHour l hl) yw_Cr_requireHour ys_Cr_requireHour lk_Cr_114 ⟨rfl, rfl, by decide, by decide⟩) (zz_cons (zz_ev_V (m_Rb_has l) yw_Rb_has yv_Rb_has lk_Cr_156 ⟨rfl, rfl, by decide, by decide⟩ (ci := 6) rfl recv_Rb_has) (zz_cons (zz_ev_V (m_Cw_sharesSomeone l) yw_Cw_sharesSomeone yv_Cw_sharesSomeone lk_Cr_159 ⟨rfl, rfl, by decide, by decide⟩ (ci := 4) rfl recv_Cw_sharesSomeone) (zz_cons (zz_ev_V (m_Gr_gatherCrew l) yw_Gr_gatherCrew yv_Gr_gatherCrew lk_Cr_162 ⟨rfl, rfl, by decide, by decide⟩ (ci := 5) rfl recv_Gr_gatherCrew) (zz_cons (zz_ev_V (m_Gr_someoneRestedLessThan l) yw_Gr_someoneRestedLessThan yv_Gr_someoneRestedLessThan lk_Cr_177 ⟨rfl, rfl, by decide, by decide⟩ (ci := 5) rfl recv_Gr_someoneRestedLessThan) (zz_cons (zz_ev_V (m_Gr_someoneOnDutyBeyond l) yw_Gr_someoneOnDutyBeyond yv_Gr_someoneOnDutyBeyond lk_Cr_183 ⟨rfl, rfl, by decide, by decide⟩ (ci := 5) rfl recv_Gr_someoneOnDutyBeyond) (zz_cons (zz_ev_V (m_Cr_firstUnmetNeed l) yw_Cr_firstUnmetNeed yv_Cr_firstUnmetNeed lk_Cr_186 ⟨rfl, rfl, by decide, by decide⟩ (ci := 0) rfl recv_Cr_firstUnmetNeed) zz_nil)))))))) (fun pc E h => (nomatch h)) (zz_VC0 160 ?_)
  rintro As ws k x ⟨⟨⟨tb, tl⟩, pa, ⟨rk, mr, fr, bf, un⟩, ⟨kd, sz, mb, co⟩, ⟨wh, hd, gs⟩, ⟨⟨le, ge, re, lo, nc⟩, rc, ⟨nx, nn, nk, nr⟩, ⟨wa, si, fh, lh⟩, sc⟩, sp, fl, wr⟩, R, c1, h, ⟨hq, hw⟩, hkk, rfl, rfl, hk⟩
  unfold oVerdict at hk
  dsimp only at hq hw hkk
  refine ⟨Nat.le_of_ble_eq_true rfl, ?_⟩
  cases fl
  · skip
    refine (And.intro (And.intro rfl (And.intro rfl (And.intro rfl (And.intro (by decide) (by decide))))) ?_)
    refine Exists.intro c1 (And.intro rfl (And.intro (fun cz => ?_) (fun cz => ?_)))
    rotate_left
    · rw [cz] at hk; exact zz_ex hk
    rw [cz] at hk
    obtain ⟨c, hc, rfl⟩ := iR_n (hi := 19) (by decide) cz
    refine (And.intro (And.intro rfl (And.intro rfl (And.intro rfl (And.intro (by decide) (by decide))))) ?_)
    refine Exists.intro h (And.intro rfl (And.intro (fun cz => ?_) (fun cz => ?_)))
    rotate_left
    · rw [cz] at hk; exact zz_ex hk
    rw [cz] at hk
    have ec : (nI c).toNatClampNeg = c := nI_clamp (by omega)
    obtain ⟨j, hj1, hj, hkd⟩ := hkk c (by omega)
    have ek : (kd (nI c).toNatClampNeg).toNatClampNeg = j := by rw [ec, hkd]; exact nI_clamp (by omega)
    have hK : (kd (nI c).toNatClampNeg).toNatClampNeg < 10 := by rw [ek]; exact hj
    have ekk : nI (kd (nI c).toNatClampNeg).toNatClampNeg = (kd (nI c).toNatClampNeg) := by rw [ek, ec, hkd]
    have iK : vp_in (kd (nI c).toNatClampNeg) 10 := by rw [← ekk]; exact zn_in hK (by decide)
    have i1 := zn_in (show c < 20 by omega) (show 20 < 2 ^ 31 by decide)
    have hk : ∀ g : qG, k (some (.int (aVerd (rk, mr, fr, bf, un) ((le, ge, re, lo, nc), rc, (nx, nn, nk, nr), (wa, si, fh, lh), sc) (cg mb co mr (nI c).toNatClampNeg 50) (cs mb co (nI c).toNatClampNeg 50) (kd (nI c).toNatClampNeg).toNatClampNeg h))) (gC (uG ((tb, tl), pa, (rk, mr, fr, bf, un), (kd, sz, mb, co), (wh, hd, gs), ((le, ge, re, lo, nc), rc, (nx, nn, nk, nr), (wa, si, fh, lh), sc), sp, false, wr) g) ++ R) := hk
    unfold aVerd at hk
    dsimp only at hk
    refine And.intro i1 ?_
    refine (And.intro (And.intro rfl (And.intro rfl (And.intro rfl (And.intro (by decide) (by decide))))) ?_)
    refine Exists.intro false (Exists.intro [.ref 1, .ref 3, .ref 4, .ref 10, .ref 15, .ref 18, .ref 32, .int wr] (Exists.intro ((tb, tl), pa, (rk, mr, fr, bf, un), (kd, sz, mb, co), (wh, hd, gs)) (Exists.intro sp (Exists.intro (gB 32 sp ++ R) (Exists.intro ((le, ge, re, lo, nc), rc, (nx, nn, nk, nr), (wa, si, fh, lh), sc) (Exists.intro (kd (nI c).toNatClampNeg).toNatClampNeg (And.intro hK (And.intro (by show [Value.ref 18, Value.int (kd (nI c).toNatClampNeg)] = [Value.ref 18, Value.int (nI (kd (nI c).toNatClampNeg).toNatClampNeg)]; rw [ekk]) (And.intro rfl (?_))))))))))
    by_cases c1 : le (kd (nI c).toNatClampNeg).toNatClampNeg = -1
    · rw [if_pos c1] at hk
      exact And.intro (fun (z : ¬ zb (!decide (le (kd (nI c).toNatClampNeg).toNatClampNeg = -1)) = 0) => absurd (by rw [decide_eq_true c1]; rfl) z) (fun _ => zz_e0 (hk (wh, hd, gs)))
    rw [if_neg c1] at hk
    obtain ⟨m, hm, hm2⟩ := hw (kd (nI c).toNatClampNeg).toNatClampNeg hK c1
    refine And.intro (fun _ => ?_) (fun (z : zb (!decide (le (kd (nI c).toNatClampNeg).toNatClampNeg = -1)) = 0) => absurd (by rw [decide_eq_false c1] at z; exact z) (by decide))
    refine (And.intro (And.intro rfl (And.intro rfl (And.intro rfl (And.intro (by decide) (by decide))))) ?_)
    refine Exists.intro ((tb, tl), pa, (rk, mr, fr, bf, un), (kd, sz, mb, co), (wh, hd, gs), ((le, ge, re, lo, nc), rc, (nx, nn, nk, nr), (wa, si, fh, lh), sc), sp, false, wr) (Exists.intro R (Exists.intro c (And.intro (by omega) (And.intro rfl (And.intro rfl (?_))))))
    refine And.intro (fun d => ?_) (fun d => ?_)
    rotate_left
    · have d := zb_n.mp d
      rw [ec, d] at hk
      exact zz_e0 (hk (wh, hd, gs))
    have d := zb_0.mp d
    rw [← ec] at d
    rw [d] at hk
    refine (And.intro (And.intro rfl (And.intro rfl (And.intro rfl (And.intro (by decide) (by decide))))) ?_)
    refine Exists.intro ((tb, tl), pa, (rk, mr, fr, bf, un), (kd, sz, mb, co), (wh, hd, gs), ((le, ge, re, lo, nc), rc, (nx, nn, nk, nr), (wa, si, fh, lh), sc), sp, false, wr) (Exists.intro R (Exists.intro c (And.intro (by omega) (And.intro rfl (And.intro rfl (?_))))))
    intro wh gs hg
    rw [← ec] at hg
    have hk : ∀ g : qG, _ := hk
    refine And.intro iK ?_
    have hgl := hg.1
    refine And.intro (fun (d1 : le (kd (nI c).toNatClampNeg).toNatClampNeg ≤ gs) => ?_) (fun (d1 : ¬ le (kd (nI c).toNatClampNeg).toNatClampNeg ≤ gs) => ?_)
    rotate_left
    · rw [← hgl, cond_false, if_pos (show gs < le (kd (nI c).toNatClampNeg).toNatClampNeg by rw [zn_lt]; rw [zn_le] at d1; omega)] at hk
      exact zz_e0 (hk (wh, hd, gs))
    rw [← hgl, cond_false, if_neg (show ¬ gs < le (kd (nI c).toNatClampNeg).toNatClampNeg from fun z => by rw [zn_lt] at z; rw [zn_le] at d1; omega)] at hk
    refine And.intro iK ?_
    refine And.intro (fun (d2 : gs ≤ ge (kd (nI c).toNatClampNeg).toNatClampNeg) => ?_) (fun (d2 : ¬ gs ≤ ge (kd (nI c).toNatClampNeg).toNatClampNeg) => ?_)
    rotate_left
    · rw [if_pos (show ge (kd (nI c).toNatClampNeg).toNatClampNeg < gs by rw [zn_lt]; rw [zn_le] at d2; omega)] at hk
      exact zz_e0 (hk (wh, hd, gs))
    rw [if_neg (show ¬ ge (kd (nI c).toNatClampNeg).toNatClampNeg < gs from fun z => by rw [zn_lt] at z; rw [zn_le] at d2; omega)] at hk
    refine And.intro iK ?_
    refine And.intro (fun (d3 : re (kd (nI c).toNatClampNeg).toNatClampNeg = -1) => ?_) (fun (d3 : ¬ re (kd (nI c).toNatClampNeg).toNatClampNeg = -1) => And.intro iK ?_)
    · rw [decide_eq_true d3, Bool.not_true, Bool.false_and, cond_false] at hk
      refine And.intro iK ?_
      refine And.intro (fun (d : lo (kd (nI c).toNatClampNeg).toNatClampNeg = -1) => ?_) (fun (d : ¬ lo (kd (nI c).toNatClampNeg).toNatClampNeg = -1) => And.intro iK ?_)
      · rw [decide_eq_true d] at hk
        refine (And.intro (And.intro rfl (And.intro rfl (And.intro rfl (And.intro (by decide) (by decide))))) ?_)
        refine Exists.intro ((tb, tl), pa, (rk, mr, fr, bf, un), (kd, sz, mb, co), (wh, hd, gs), ((le, ge, re, lo, nc), rc, (nx, nn, nk, nr), (wa, si, fh, lh), sc), sp, false, wr) (Exists.intro R (Exists.intro (cg mb co mr (nI c).toNatClampNeg 50) (Exists.intro h (Exists.intro (kd (nI c).toNatClampNeg).toNatClampNeg (Exists.intro m (And.intro hg (And.intro hq (And.intro hK (And.intro hm (And.intro hm2 (And.intro (by show [Value.ref 0, Value.int (kd (nI c).toNatClampNeg), Value.int h] = [Value.ref 0, Value.int (nI (kd (nI c).toNatClampNeg).toNatClampNeg), Value.int h]; rw [ekk]) (And.intro rfl (?_)))))))))))))
        intro hd2
        have hk := hk (wh, hd2, gs)
        rw [hm2, nI_clamp (show m < 2 ^ 31 by omega)] at hk
        cases hf : fN (nU (rk, mr, fr, bf, un) ((le, ge, re, lo, nc), rc, (nx, nn, nk, nr), (wa, si, fh, lh), sc) (cg mb co mr (nI c).toNatClampNeg 50) h (kd (nI c).toNatClampNeg).toNatClampNeg) m with
        | none =>
          rw [hf] at hk
          exact And.intro (fun (z : ¬ gr none = -1) => absurd rfl z) (fun _ => zz_e0 hk)
        | some i =>
          rw [hf] at hk
          have := (fN_lt hf).1
          exact And.intro (fun _ => zz_e0 hk) (fun (z : gr (some i) = -1) => absurd z (nI_m1 (by omega)))
      · rw [decide_eq_false d] at hk
        refine (And.intro (And.intro rfl (And.intro rfl (And.intro rfl (And.intro (by decide) (by decide))))) ?_)
        refine Exists.intro ((tb, tl), pa, (rk, mr, fr, bf, un), (kd, sz, mb, co), (wh, hd, gs), ((le, ge, re, lo, nc), rc, (nx, nn, nk, nr), (wa, si, fh, lh), sc), sp, false, wr) (Exists.intro R (Exists.intro (cg mb co mr (nI c).toNatClampNeg 50) (Exists.intro _ (Exists.intro h (And.intro hg (And.intro rfl (And.intro rfl (?_))))))))
        refine And.intro (fun d2 => ?_) (fun d2 => ?_)
        · have d2 := zb_0.mp d2
          rw [d2] at hk
          refine (And.intro (And.intro rfl (And.intro rfl (And.intro rfl (And.intro (by decide) (by decide))))) ?_)
          refine Exists.intro ((tb, tl), pa, (rk, mr, fr, bf, un), (kd, sz, mb, co), (wh, hd, gs), ((le, ge, re, lo, nc), rc, (nx, nn, nk, nr), (wa, si, fh, lh), sc), sp, false, wr) (Exists.intro R (Exists.intro (cg mb co mr (nI c).toNatClampNeg 50) (Exists.intro h (Exists.intro (kd (nI c).toNatClampNeg).toNatClampNeg (Exists.intro m (And.intro hg (And.intro hq (And.intro hK (And.intro hm (And.intro hm2 (And.intro (by show [Value.ref 0, Value.int (kd (nI c).toNatClampNeg), Value.int h] = [Value.ref 0, Value.int (nI (kd (nI c).toNatClampNeg).toNatClampNeg), Value.int h]; rw [ekk]) (And.intro rfl (?_)))))))))))))
          intro hd2
          have hk := hk (wh, hd2, gs)
          rw [hm2, nI_clamp (show m < 2 ^ 31 by omega)] at hk
          cases hf : fN (nU (rk, mr, fr, bf, un) ((le, ge, re, lo, nc), rc, (nx, nn, nk, nr), (wa, si, fh, lh), sc) (cg mb co mr (nI c).toNatClampNeg 50) h (kd (nI c).toNatClampNeg).toNatClampNeg) m with
          | none =>
            rw [hf] at hk
            exact And.intro (fun (z : ¬ gr none = -1) => absurd rfl z) (fun _ => zz_e0 hk)
          | some i =>
            rw [hf] at hk
            have := (fN_lt hf).1
            exact And.intro (fun _ => zz_e0 hk) (fun (z : gr (some i) = -1) => absurd z (nI_m1 (by omega)))
        · have d2 := zb_n.mp d2
          rw [d2] at hk
          exact zz_e0 (hk (wh, hd, gs))
    · rw [decide_eq_false d3, Bool.not_false, Bool.true_and] at hk
      refine (And.intro (And.intro rfl (And.intro rfl (And.intro rfl (And.intro (by decide) (by decide))))) ?_)
      refine Exists.intro ((tb, tl), pa, (rk, mr, fr, bf, un), (kd, sz, mb, co), (wh, hd, gs), ((le, ge, re, lo, nc), rc, (nx, nn, nk, nr), (wa, si, fh, lh), sc), sp, false, wr) (Exists.intro R (Exists.intro (cg mb co mr (nI c).toNatClampNeg 50) (Exists.intro _ (And.intro hg (And.intro rfl (And.intro rfl (?_)))))))
      refine And.intro (fun d4 => ?_) (fun d4 => ?_)
      rotate_left
      · have d4 := zb_n.mp d4
        rw [d4] at hk
        exact zz_e0 (hk (wh, hd, gs))
      have d4 := zb_0.mp d4
      rw [d4, cond_false] at hk
      refine And.intro iK ?_
      refine And.intro (fun (d : lo (kd (nI c).toNatClampNeg).toNatClampNeg = -1) => ?_) (fun (d : ¬ lo (kd (nI c).toNatClampNeg).toNatClampNeg = -1) => And.intro iK ?_)
      · rw [decide_eq_true d] at hk
        refine (And.intro (And.intro rfl (And.intro rfl (And.intro rfl (And.intro (by decide) (by decide))))) ?_)
        refine Exists.intro ((tb, tl), pa, (rk, mr, fr, bf, un), (kd, sz, mb, co), (wh, hd, gs), ((le, ge, re, lo, nc), rc, (nx, nn, nk, nr), (wa, si, fh, lh), sc), sp, false, wr) (Exists.intro R (Exists.intro (cg mb co mr (nI c).toNatClampNeg 50) (Exists.intro h (Exists.intro (kd (nI c).toNatClampNeg).toNatClampNeg (Exists.intro m (And.intro hg (And.intro hq (And.intro hK (And.intro hm (And.intro hm2 (And.intro (by show [Value.ref 0, Value.int (kd (nI c).toNatClampNeg), Value.int h] = [Value.ref 0, Value.int (nI (kd (nI c).toNatClampNeg).toNatClampNeg), Value.int h]; rw [ekk]) (And.intro rfl (?_)))))))))))))
        intro hd2
        have hk := hk (wh, hd2, gs)
        rw [hm2, nI_clamp (show m < 2 ^ 31 by omega)] at hk
        cases hf : fN (nU (rk, mr, fr, bf, un) ((le, ge, re, lo, nc), rc, (nx, nn, nk, nr), (wa, si, fh, lh), sc) (cg mb co mr (nI c).toNatClampNeg 50) h (kd (nI c).toNatClampNeg).toNatClampNeg) m with
        | none =>
          rw [hf] at hk
          exact And.intro (fun (z : ¬ gr none = -1) => absurd rfl z) (fun _ => zz_e0 hk)
        | some i =>
          rw [hf] at hk
          have := (fN_lt hf).1
          exact And.intro (fun _ => zz_e0 hk) (fun (z : gr (some i) = -1) => absurd z (nI_m1 (by omega)))
      · rw [decide_eq_false d] at hk
        refine (And.intro (And.intro rfl (And.intro rfl (And.intro rfl (And.intro (by decide) (by decide))))) ?_)
        refine Exists.intro ((tb, tl), pa, (rk, mr, fr, bf, un), (kd, sz, mb, co), (wh, hd, gs), ((le, ge, re, lo, nc), rc, (nx, nn, nk, nr), (wa, si, fh, lh), sc), sp, false, wr) (Exists.intro R (Exists.intro (cg mb co mr (nI c).toNatClampNeg 50) (Exists.intro _ (Exists.intro h (And.intro hg (And.intro rfl (And.intro rfl (?_))))))))
        refine And.intro (fun d2 => ?_) (fun d2 => ?_)
        · have d2 := zb_0.mp d2
          rw [d2] at hk
          refine (And.intro (And.intro rfl (And.intro rfl (And.intro rfl (And.intro (by decide) (by decide))))) ?_)
          refine Exists.intro ((tb, tl), pa, (rk, mr, fr, bf, un), (kd, sz, mb, co), (wh, hd, gs), ((le, ge, re, lo, nc), rc, (nx, nn, nk, nr), (wa, si, fh, lh), sc), sp, false, wr) (Exists.intro R (Exists.intro (cg mb co mr (nI c).toNatClampNeg 50) (Exists.intro h (Exists.intro (kd (nI c).toNatClampNeg).toNatClampNeg (Exists.intro m (And.intro hg (And.intro hq (And.intro hK (And.intro hm (And.intro hm2 (And.intro (by show [Value.ref 0, Value.int (kd (nI c).toNatClampNeg), Value.int h] = [Value.ref 0, Value.int (nI (kd (nI c).toNatClampNeg).toNatClampNeg), Value.int h]; rw [ekk]) (And.intro rfl (?_)))))))))))))
          intro hd2
          have hk := hk (wh, hd2, gs)
          rw [hm2, nI_clamp (show m < 2 ^ 31 by omega)] at hk
          cases hf : fN (nU (rk, mr, fr, bf, un) ((le, ge, re, lo, nc), rc, (nx, nn, nk, nr), (wa, si, fh, lh), sc) (cg mb co mr (nI c).toNatClampNeg 50) h (kd (nI c).toNatClampNeg).toNatClampNeg) m with
          | none =>
            rw [hf] at hk
            exact And.intro (fun (z : ¬ gr none = -1) => absurd rfl z) (fun _ => zz_e0 hk)
          | some i =>
            rw [hf] at hk
            have := (fN_lt hf).1
            exact And.intro (fun _ => zz_e0 hk) (fun (z : gr (some i) = -1) => absurd z (nI_m1 (by omega)))
        · have d2 := zb_n.mp d2
          rw [d2] at hk
          exact zz_e0 (hk (wh, hd, gs))
  · skip
    refine (And.intro (And.intro rfl (And.intro rfl (And.intro rfl (And.intro (by decide) (by decide))))) ?_)
    refine Exists.intro c1 (And.intro rfl (And.intro (fun cz => ?_) (fun cz => ?_)))
    rotate_left
    · rw [cz] at hk; exact zz_ex hk
    rw [cz] at hk
    obtain ⟨c, hc, rfl⟩ := iR_n (hi := 19) (by decide) cz
    refine (And.intro (And.intro rfl (And.intro rfl (And.intro rfl (And.intro (by decide) (by decide))))) ?_)
    refine Exists.intro h (And.intro rfl (And.intro (fun cz => ?_) (fun cz => ?_)))
    rotate_left
    · rw [cz] at hk; exact zz_ex hk
    rw [cz] at hk
    have ec : (nI c).toNatClampNeg = c := nI_clamp (by omega)
    obtain ⟨j, hj1, hj, hkd⟩ := hkk c (by omega)
    have ek : (kd (nI c).toNatClampNeg).toNatClampNeg = j := by rw [ec, hkd]; exact nI_clamp (by omega)
    have hK : (kd (nI c).toNatClampNeg).toNatClampNeg < 10 := by rw [ek]; exact hj
    have ekk : nI (kd (nI c).toNatClampNeg).toNatClampNeg = (kd (nI c).toNatClampNeg) := by rw [ek, ec, hkd]
    have iK : vp_in (kd (nI c).toNatClampNeg) 10 := by rw [← ekk]; exact zn_in hK (by decide)
    have i1 := zn_in (show c < 20 by omega) (show 20 < 2 ^ 31 by decide)
    have hk : ∀ g : qG, k (some (.int (aVerd (rk, mr, fr, bf, un) ((le, ge, re, lo, nc), rc, (nx, nn, nk, nr), (wa, si, fh, lh), sc) (cg mb co mr (nI c).toNatClampNeg 50) (cs mb co (nI c).toNatClampNeg 50) (kd (nI c).toNatClampNeg).toNatClampNeg h))) (gC (uG ((tb, tl), pa, (rk, mr, fr, bf, un), (kd, sz, mb, co), (wh, hd, gs), ((le, ge, re, lo, nc), rc, (nx, nn, nk, nr), (wa, si, fh, lh), sc), sp, true, wr) g) ++ R) := hk
    unfold aVerd at hk
    dsimp only at hk
    refine And.intro i1 ?_
    refine (And.intro (And.intro rfl (And.intro rfl (And.intro rfl (And.intro (by decide) (by decide))))) ?_)
    refine Exists.intro true (Exists.intro [.ref 1, .ref 3, .ref 4, .ref 10, .ref 15, .ref 32, .ref 18, .int wr] (Exists.intro ((tb, tl), pa, (rk, mr, fr, bf, un), (kd, sz, mb, co), (wh, hd, gs)) (Exists.intro sp (Exists.intro R (Exists.intro ((le, ge, re, lo, nc), rc, (nx, nn, nk, nr), (wa, si, fh, lh), sc) (Exists.intro (kd (nI c).toNatClampNeg).toNatClampNeg (And.intro hK (And.intro (by show [Value.ref 32, Value.int (kd (nI c).toNatClampNeg)] = [Value.ref 32, Value.int (nI (kd (nI c).toNatClampNeg).toNatClampNeg)]; rw [ekk]) (And.intro rfl (?_))))))))))
    by_cases c1 : le (kd (nI c).toNatClampNeg).toNatClampNeg = -1
    · rw [if_pos c1] at hk
      exact And.intro (fun (z : ¬ zb (!decide (le (kd (nI c).toNatClampNeg).toNatClampNeg = -1)) = 0) => absurd (by rw [decide_eq_true c1]; rfl) z) (fun _ => zz_e0 (hk (wh, hd, gs)))
    rw [if_neg c1] at hk
    obtain ⟨m, hm, hm2⟩ := hw (kd (nI c).toNatClampNeg).toNatClampNeg hK c1
    refine And.intro (fun _ => ?_) (fun (z : zb (!decide (le (kd (nI c).toNatClampNeg).toNatClampNeg = -1)) = 0) => absurd (by rw [decide_eq_false c1] at z; exact z) (by decide))
    refine (And.intro (And.intro rfl (And.intro rfl (And.intro rfl (And.intro (by decide) (by decide))))) ?_)
    refine Exists.intro ((tb, tl), pa, (rk, mr, fr, bf, un), (kd, sz, mb, co), (wh, hd, gs), ((le, ge, re, lo, nc), rc, (nx, nn, nk, nr), (wa, si, fh, lh), sc), sp, true, wr) (Exists.intro R (Exists.intro c (And.intro (by omega) (And.intro rfl (And.intro rfl (?_))))))
    refine And.intro (fun d => ?_) (fun d => ?_)
    rotate_left
    · have d := zb_n.mp d
      rw [ec, d] at hk
      exact zz_e0 (hk (wh, hd, gs))
    have d := zb_0.mp d
    rw [← ec] at d
    rw [d] at hk
    refine (And.intro (And.intro rfl (And.intro rfl (And.intro rfl (And.intro (by decide) (by decide))))) ?_)
    refine Exists.intro ((tb, tl), pa, (rk, mr, fr, bf, un), (kd, sz, mb, co), (wh, hd, gs), ((le, ge, re, lo, nc), rc, (nx, nn, nk, nr), (wa, si, fh, lh), sc), sp, true, wr) (Exists.intro R (Exists.intro c (And.intro (by omega) (And.intro rfl (And.intro rfl (?_))))))
    intro wh gs hg
    rw [← ec] at hg
    have hk : ∀ g : qG, _ := hk
    refine And.intro iK ?_
    have hgl := hg.1
    refine And.intro (fun (d1 : le (kd (nI c).toNatClampNeg).toNatClampNeg ≤ gs) => ?_) (fun (d1 : ¬ le (kd (nI c).toNatClampNeg).toNatClampNeg ≤ gs) => ?_)
    rotate_left
    · rw [← hgl, cond_false, if_pos (show gs < le (kd (nI c).toNatClampNeg).toNatClampNeg by rw [zn_lt]; rw [zn_le] at d1; omega)] at hk
      exact zz_e0 (hk (wh, hd, gs))
    rw [← hgl, cond_false, if_neg (show ¬ gs < le (kd (nI c).toNatClampNeg).toNatClampNeg from fun z => by rw [zn_lt] at z; rw [zn_le] at d1; omega)] at hk
    refine And.intro iK ?_
    refine And.intro (fun (d2 : gs ≤ ge (kd (nI c).toNatClampNeg).toNatClampNeg) => ?_) (fun (d2 : ¬ gs ≤ ge (kd (nI c).toNatClampNeg).toNatClampNeg) => ?_)
    rotate_left
    · rw [if_pos (show ge (kd (nI c).toNatClampNeg).toNatClampNeg < gs by rw [zn_lt]; rw [zn_le] at d2; omega)] at hk
      exact zz_e0 (hk (wh, hd, gs))
    rw [if_neg (show ¬ ge (kd (nI c).toNatClampNeg).toNatClampNeg < gs from fun z => by rw [zn_lt] at z; rw [zn_le] at d2; omega)] at hk
    refine And.intro iK ?_
    refine And.intro (fun (d3 : re (kd (nI c).toNatClampNeg).toNatClampNeg = -1) => ?_) (fun (d3 : ¬ re (kd (nI c).toNatClampNeg).toNatClampNeg = -1) => And.intro iK ?_)
    · rw [decide_eq_true d3, Bool.not_true, Bool.false_and, cond_false] at hk
      refine And.intro iK ?_
      refine And.intro (fun (d : lo (kd (nI c).toNatClampNeg).toNatClampNeg = -1) => ?_) (fun (d : ¬ lo (kd (nI c).toNatClampNeg).toNatClampNeg = -1) => And.intro iK ?_)
      · rw [decide_eq_true d] at hk
        refine (And.intro (And.intro rfl (And.intro rfl (And.intro rfl (And.intro (by decide) (by decide))))) ?_)
        refine Exists.intro ((tb, tl), pa, (rk, mr, fr, bf, un), (kd, sz, mb, co), (wh, hd, gs), ((le, ge, re, lo, nc), rc, (nx, nn, nk, nr), (wa, si, fh, lh), sc), sp, true, wr) (Exists.intro R (Exists.intro (cg mb co mr (nI c).toNatClampNeg 50) (Exists.intro h (Exists.intro (kd (nI c).toNatClampNeg).toNatClampNeg (Exists.intro m (And.intro hg (And.intro hq (And.intro hK (And.intro hm (And.intro hm2 (And.intro (by show [Value.ref 0, Value.int (kd (nI c).toNatClampNeg), Value.int h] = [Value.ref 0, Value.int (nI (kd (nI c).toNatClampNeg).toNatClampNeg), Value.int h]; rw [ekk]) (And.intro rfl (?_)))))))))))))
        intro hd2
        have hk := hk (wh, hd2, gs)
        rw [hm2, nI_clamp (show m < 2 ^ 31 by omega)] at hk
        cases hf : fN (nU (rk, mr, fr, bf, un) ((le, ge, re, lo, nc), rc, (nx, nn, nk, nr), (wa, si, fh, lh), sc) (cg mb co mr (nI c).toNatClampNeg 50) h (kd (nI c).toNatClampNeg).toNatClampNeg) m with
        | none =>
          rw [hf] at hk
          exact And.intro (fun (z : ¬ gr none = -1) => absurd rfl z) (fun _ => zz_e0 hk)
        | some i =>
          rw [hf] at hk
          have := (fN_lt hf).1
          exact And.intro (fun _ => zz_e0 hk) (fun (z : gr (some i) = -1) => absurd z (nI_m1 (by omega)))
      · rw [decide_eq_false d] at hk
        refine (And.intro (And.intro rfl (And.intro rfl (And.intro rfl (And.intro (by decide) (by decide))))) ?_)
        refine Exists.intro ((tb, tl), pa, (rk, mr, fr, bf, un), (kd, sz, mb, co), (wh, hd, gs), ((le, ge, re, lo, nc), rc, (nx, nn, nk, nr), (wa, si, fh, lh), sc), sp, true, wr) (Exists.intro R (Exists.intro (cg mb co mr (nI c).toNatClampNeg 50) (Exists.intro _ (Exists.intro h (And.intro hg (And.intro rfl (And.intro rfl (?_))))))))
        refine And.intro (fun d2 => ?_) (fun d2 => ?_)
        · have d2 := zb_0.mp d2
          rw [d2] at hk
          refine (And.intro (And.intro rfl (And.intro rfl (And.intro rfl (And.intro (by decide) (by decide))))) ?_)
          refine Exists.intro ((tb, tl), pa, (rk, mr, fr, bf, un), (kd, sz, mb, co), (wh, hd, gs), ((le, ge, re, lo, nc), rc, (nx, nn, nk, nr), (wa, si, fh, lh), sc), sp, true, wr) (Exists.intro R (Exists.intro (cg mb co mr (nI c).toNatClampNeg 50) (Exists.intro h (Exists.intro (kd (nI c).toNatClampNeg).toNatClampNeg (Exists.intro m (And.intro hg (And.intro hq (And.intro hK (And.intro hm (And.intro hm2 (And.intro (by show [Value.ref 0, Value.int (kd (nI c).toNatClampNeg), Value.int h] = [Value.ref 0, Value.int (nI (kd (nI c).toNatClampNeg).toNatClampNeg), Value.int h]; rw [ekk]) (And.intro rfl (?_)))))))))))))
          intro hd2
          have hk := hk (wh, hd2, gs)
          rw [hm2, nI_clamp (show m < 2 ^ 31 by omega)] at hk
          cases hf : fN (nU (rk, mr, fr, bf, un) ((le, ge, re, lo, nc), rc, (nx, nn, nk, nr), (wa, si, fh, lh), sc) (cg mb co mr (nI c).toNatClampNeg 50) h (kd (nI c).toNatClampNeg).toNatClampNeg) m with
          | none =>
            rw [hf] at hk
            exact And.intro (fun (z : ¬ gr none = -1) => absurd rfl z) (fun _ => zz_e0 hk)
          | some i =>
            rw [hf] at hk
            have := (fN_lt hf).1
            exact And.intro (fun _ => zz_e0 hk) (fun (z : gr (some i) = -1) => absurd z (nI_m1 (by omega)))
        · have d2 := zb_n.mp d2
          rw [d2] at hk
          exact zz_e0 (hk (wh, hd, gs))
    · rw [decide_eq_false d3, Bool.not_false, Bool.true_and] at hk
      refine (And.intro (And.intro rfl (And.intro rfl (And.intro rfl (And.intro (by decide) (by decide))))) ?_)
      refine Exists.intro ((tb, tl), pa, (rk, mr, fr, bf, un), (kd, sz, mb, co), (wh, hd, gs), ((le, ge, re, lo, nc), rc, (nx, nn, nk, nr), (wa, si, fh, lh), sc), sp, true, wr) (Exists.intro R (Exists.intro (cg mb co mr (nI c).toNatClampNeg 50) (Exists.intro _ (And.intro hg (And.intro rfl (And.intro rfl (?_)))))))
      refine And.intro (fun d4 => ?_) (fun d4 => ?_)
      rotate_left
      · have d4 := zb_n.mp d4
        rw [d4] at hk
        exact zz_e0 (hk (wh, hd, gs))
      have d4 := zb_0.mp d4
      rw [d4, cond_false] at hk
      refine And.intro iK ?_
      refine And.intro (fun (d : lo (kd (nI c).toNatClampNeg).toNatClampNeg = -1) => ?_) (fun (d : ¬ lo (kd (nI c).toNatClampNeg).toNatClampNeg = -1) => And.intro iK ?_)
      · rw [decide_eq_true d] at hk
        refine (And.intro (And.intro rfl (And.intro rfl (And.intro rfl (And.intro (by decide) (by decide))))) ?_)
        refine Exists.intro ((tb, tl), pa, (rk, mr, fr, bf, un), (kd, sz, mb, co), (wh, hd, gs), ((le, ge, re, lo, nc), rc, (nx, nn, nk, nr), (wa, si, fh, lh), sc), sp, true, wr) (Exists.intro R (Exists.intro (cg mb co mr (nI c).toNatClampNeg 50) (Exists.intro h (Exists.intro (kd (nI c).toNatClampNeg).toNatClampNeg (Exists.intro m (And.intro hg (And.intro hq (And.intro hK (And.intro hm (And.intro hm2 (And.intro (by show [Value.ref 0, Value.int (kd (nI c).toNatClampNeg), Value.int h] = [Value.ref 0, Value.int (nI (kd (nI c).toNatClampNeg).toNatClampNeg), Value.int h]; rw [ekk]) (And.intro rfl (?_)))))))))))))
        intro hd2
        have hk := hk (wh, hd2, gs)
        rw [hm2, nI_clamp (show m < 2 ^ 31 by omega)] at hk
        cases hf : fN (nU (rk, mr, fr, bf, un) ((le, ge, re, lo, nc), rc, (nx, nn, nk, nr), (wa, si, fh, lh), sc) (cg mb co mr (nI c).toNatClampNeg 50) h (kd (nI c).toNatClampNeg).toNatClampNeg) m with
        | none =>
          rw [hf] at hk
          exact And.intro (fun (z : ¬ gr none = -1) => absurd rfl z) (fun _ => zz_e0 hk)
        | some i =>
          rw [hf] at hk
          have := (fN_lt hf).1
          exact And.intro (fun _ => zz_e0 hk) (fun (z : gr (some i) = -1) => absurd z (nI_m1 (by omega)))
      · rw [decide_eq_false d] at hk
        refine (And.intro (And.intro rfl (And.intro rfl (And.intro rfl (And.intro (by decide) (by decide))))) ?_)
        refine Exists.intro ((tb, tl), pa, (rk, mr, fr, bf, un), (kd, sz, mb, co), (wh, hd, gs), ((le, ge, re, lo, nc), rc, (nx, nn, nk, nr), (wa, si, fh, lh), sc), sp, true, wr) (Exists.intro R (Exists.intro (cg mb co mr (nI c).toNatClampNeg 50) (Exists.intro _ (Exists.intro h (And.intro hg (And.intro rfl (And.intro rfl (?_))))))))
        refine And.intro (fun d2 => ?_) (fun d2 => ?_)
        · have d2 := zb_0.mp d2
          rw [d2] at hk
          refine (And.intro (And.intro rfl (And.intro rfl (And.intro rfl (And.intro (by decide) (by decide))))) ?_)
          refine Exists.intro ((tb, tl), pa, (rk, mr, fr, bf, un), (kd, sz, mb, co), (wh, hd, gs), ((le, ge, re, lo, nc), rc, (nx, nn, nk, nr), (wa, si, fh, lh), sc), sp, true, wr) (Exists.intro R (Exists.intro (cg mb co mr (nI c).toNatClampNeg 50) (Exists.intro h (Exists.intro (kd (nI c).toNatClampNeg).toNatClampNeg (Exists.intro m (And.intro hg (And.intro hq (And.intro hK (And.intro hm (And.intro hm2 (And.intro (by show [Value.ref 0, Value.int (kd (nI c).toNatClampNeg), Value.int h] = [Value.ref 0, Value.int (nI (kd (nI c).toNatClampNeg).toNatClampNeg), Value.int h]; rw [ekk]) (And.intro rfl (?_)))))))))))))
          intro hd2
          have hk := hk (wh, hd2, gs)
          rw [hm2, nI_clamp (show m < 2 ^ 31 by omega)] at hk
          cases hf : fN (nU (rk, mr, fr, bf, un) ((le, ge, re, lo, nc), rc, (nx, nn, nk, nr), (wa, si, fh, lh), sc) (cg mb co mr (nI c).toNatClampNeg 50) h (kd (nI c).toNatClampNeg).toNatClampNeg) m with
          | none =>
            rw [hf] at hk
            exact And.intro (fun (z : ¬ gr none = -1) => absurd rfl z) (fun _ => zz_e0 hk)
          | some i =>
            rw [hf] at hk
            have := (fN_lt hf).1
            exact And.intro (fun _ => zz_e0 hk) (fun (z : gr (some i) = -1) => absurd z (nI_m1 (by omega)))
        · have d2 := zb_n.mp d2
          rw [d2] at hk
          exact zz_e0 (hk (wh, hd, gs))
theorem recv_Cr_verdict : ∀ As ws k x, pt_Cr_verdict As ws k x → ∃ q As' fs, As = .ref q :: As' ∧ ws[q]? = some (.inr (0, fs)) := by
  rintro As ws k x ⟨s, R, c, h, hw, hk1, rfl, rfl, hk⟩
  exact ⟨_, _, _, rfl, rfl⟩
def oRule (b : qB) (k w : Int32) : Nat := bif !iR 1 9 k || (decide (b.1.1 k.toNatClampNeg = -1) || !iR 0 4 w) then 1 else 0
def aRule (b : qB) (k w : Int32) : Int32 := if w = 0 then b.1.1 k.toNatClampNeg else if w = 1 then b.1.2.1 k.toNatClampNeg else if w = 2 then b.1.2.2.1 k.toNatClampNeg else if w = 3 then b.1.2.2.2.1 k.toNatClampNeg else b.1.2.2.2.2 k.toNatClampNeg
def pt_Cr_rule : zz_PT := fun As ws k x => ∃ (s : qC) (R : List va_E) (j w : Int32), As = [.ref 0, .int j, .int w] ∧ ws = gC s ++ R ∧ zo (oRule s.2.2.2.2.2.1 j w) (x "java/lang/IllegalArgumentException" ws) False False (k (some (.int (aRule s.2.2.2.2.2.1 j w))) ws)
theorem iR_04 {w : Int32} (h0 : ¬ w = 0) (h1 : ¬ w = 1) (h2 : ¬ w = 2) (h3 : ¬ w = 3) (h4 : ¬ w = 4) : iR 0 4 w = false := by
  cases e : iR 0 4 w with
  | false => rfl
  | true =>
    obtain ⟨p, hp, rfl⟩ := iR_n (hi := 4) (by decide) e
    match p, hp with
    | 0, _ => exact absurd rfl h0
    | 1, _ => exact absurd rfl h1
    | 2, _ => exact absurd rfl h2
    | 3, _ => exact absurd rfl h3
    | 4, _ => exact absurd rfl h4
set_option maxHeartbeats 4000000 in
set_option maxRecDepth 100000 in
theorem m_Cr_rule (l : Launch) (hl : l.stackTraces = false) : zz_M zz_CL l y_Cr_rule (Cond.code y_Cr_rule c_Cr_rule 3 (some .int) :: zz_big) (zz_rm 6 82 1 6) (3, false, 0, 0, pt_Cr_rule) := by
  refine zz_M_of (HOST := "CrewRules") (L := [(0, 156, (2, false, 0, 0, pt_Rb_has))]) (sw := sw_Cr_rule) (pg := pg_Cr_rule) (th := th_Cr_rule) (ini := false) (by decide +kernel) zz_static (fun h => nomatch h) (by decide) (by decide) ok_Cr_rule (zz_cons (zz_ev_V (m_Rb_has l) yw_Rb_has yv_Rb_has lk_Cr_156 ⟨rfl, rfl, by decide, by decide⟩ (ci := 6) rfl recv_Rb_has) zz_nil) (tk_Cr_rule hl (by decide) (by decide)) (zz_VC0 80 ?_)
  rintro As ws k x ⟨⟨⟨tb, tl⟩, pa, ⟨rk, mr, fr, bf, un⟩, ⟨kd, sz, mb, co⟩, ⟨wh, hd, gs⟩, ⟨⟨le, ge, re, lo, nc⟩, rc, ⟨nx, nn, nk, nr⟩, ⟨wa, si, fh, lh⟩, sc⟩, sp, fl, wr⟩, R, j, w, rfl, rfl, hk⟩
  unfold oRule at hk
  refine ⟨Nat.le_of_ble_eq_true rfl, ?_⟩
  cases fl
  · skip
    refine And.intro (fun (c : j < 1) => ?_) (fun (c : ¬ j < 1) => ?_)
    · rw [iR_lo c] at hk
      exact zz_et hk
    refine And.intro (fun (c2 : 9 < j) => ?_) (fun (c2 : ¬ 9 < j) => ?_)
    · rw [iR_hi (fun z => by rw [zn_le] at z; rw [zn_lt] at c2; omega)] at hk
      exact zz_et hk
    have e1 : (1 : Int32).toInt = 1 := by decide
    have e0 : (0 : Int32).toInt = 0 := by decide
    obtain ⟨q, hq, rfl⟩ := iR_n (hi := 9) (v := j) (by decide) (iR_t (by rw [zn_le, e0]; rw [zn_lt, e1] at c; omega) (zn_nl c2))
    have e : (nI q).toNatClampNeg = q := nI_clamp (by omega)
    have i1 := zn_in (show q < 10 by omega) (show 10 < 2 ^ 31 by decide)
    rw [iR_t (zn_nl c) (zn_nl c2)] at hk
    dsimp only at hk
    refine (And.intro (And.intro rfl (And.intro rfl (And.intro rfl (And.intro (by decide) (by decide))))) ?_)
    refine Exists.intro false (Exists.intro [.ref 1, .ref 3, .ref 4, .ref 10, .ref 15, .ref 18, .ref 32, .int wr] (Exists.intro ((tb, tl), pa, (rk, mr, fr, bf, un), (kd, sz, mb, co), (wh, hd, gs)) (Exists.intro sp (Exists.intro (gB 32 sp ++ R) (Exists.intro ((le, ge, re, lo, nc), rc, (nx, nn, nk, nr), (wa, si, fh, lh), sc) (Exists.intro q (And.intro (by omega) (And.intro rfl (And.intro rfl (?_))))))))))
    by_cases c3 : le q = -1
    · rw [e, decide_eq_true c3] at hk
      exact And.intro (fun (z : ¬ zb (!decide (le q = -1)) = 0) => absurd (by rw [decide_eq_true c3]; rfl) z) (fun _ => zz_et hk)
    refine And.intro (fun _ => ?_) (fun (z : zb (!decide (le q = -1)) = 0) => absurd (by rw [decide_eq_false c3] at z; exact z) (by decide))
    rw [show decide (le (nI q).toNatClampNeg = -1) = false by rw [e]; exact decide_eq_false c3] at hk
    refine And.intro (fun (d0 : w = 0) => ?_) (fun (d0 : ¬ w = 0) => ?_)
    · rw [show iR 0 4 w = true by rw [d0]; decide] at hk
      have hk : k (some (.int (aRule ((le, ge, re, lo, nc), rc, (nx, nn, nk, nr), (wa, si, fh, lh), sc) (nI q) w))) (gC ((tb, tl), pa, (rk, mr, fr, bf, un), (kd, sz, mb, co), (wh, hd, gs), ((le, ge, re, lo, nc), rc, (nx, nn, nk, nr), (wa, si, fh, lh), sc), sp, false, wr) ++ R) := hk
      unfold aRule at hk
      rw [if_pos d0] at hk
      exact And.intro i1 (zz_e0 hk)
    refine And.intro (fun (d1 : w = 1) => ?_) (fun (d1 : ¬ w = 1) => ?_)
    · rw [show iR 0 4 w = true by rw [d1]; decide] at hk
      have hk : k (some (.int (aRule ((le, ge, re, lo, nc), rc, (nx, nn, nk, nr), (wa, si, fh, lh), sc) (nI q) w))) (gC ((tb, tl), pa, (rk, mr, fr, bf, un), (kd, sz, mb, co), (wh, hd, gs), ((le, ge, re, lo, nc), rc, (nx, nn, nk, nr), (wa, si, fh, lh), sc), sp, false, wr) ++ R) := hk
      unfold aRule at hk
      rw [if_neg d0, if_pos d1] at hk
      exact And.intro i1 (zz_e0 hk)
    refine And.intro (fun (d2 : w = 2) => ?_) (fun (d2 : ¬ w = 2) => ?_)
    · rw [show iR 0 4 w = true by rw [d2]; decide] at hk
      have hk : k (some (.int (aRule ((le, ge, re, lo, nc), rc, (nx, nn, nk, nr), (wa, si, fh, lh), sc) (nI q) w))) (gC ((tb, tl), pa, (rk, mr, fr, bf, un), (kd, sz, mb, co), (wh, hd, gs), ((le, ge, re, lo, nc), rc, (nx, nn, nk, nr), (wa, si, fh, lh), sc), sp, false, wr) ++ R) := hk
      unfold aRule at hk
      rw [if_neg d0, if_neg d1, if_pos d2] at hk
      exact And.intro i1 (zz_e0 hk)
    refine And.intro (fun (d3 : w = 3) => ?_) (fun (d3 : ¬ w = 3) => ?_)
    · rw [show iR 0 4 w = true by rw [d3]; decide] at hk
      have hk : k (some (.int (aRule ((le, ge, re, lo, nc), rc, (nx, nn, nk, nr), (wa, si, fh, lh), sc) (nI q) w))) (gC ((tb, tl), pa, (rk, mr, fr, bf, un), (kd, sz, mb, co), (wh, hd, gs), ((le, ge, re, lo, nc), rc, (nx, nn, nk, nr), (wa, si, fh, lh), sc), sp, false, wr) ++ R) := hk
      unfold aRule at hk
      rw [if_neg d0, if_neg d1, if_neg d2, if_pos d3] at hk
      exact And.intro i1 (zz_e0 hk)
    refine And.intro (fun (d4 : w = 4) => ?_) (fun (d4 : ¬ w = 4) => ?_)
    · rw [show iR 0 4 w = true by rw [d4]; decide] at hk
      have hk : k (some (.int (aRule ((le, ge, re, lo, nc), rc, (nx, nn, nk, nr), (wa, si, fh, lh), sc) (nI q) w))) (gC ((tb, tl), pa, (rk, mr, fr, bf, un), (kd, sz, mb, co), (wh, hd, gs), ((le, ge, re, lo, nc), rc, (nx, nn, nk, nr), (wa, si, fh, lh), sc), sp, false, wr) ++ R) := hk
      unfold aRule at hk
      rw [if_neg d0, if_neg d1, if_neg d2, if_neg d3] at hk
      exact And.intro i1 (zz_e0 hk)
    rw [iR_04 d0 d1 d2 d3 d4] at hk
    exact zz_et hk
  · skip
    refine And.intro (fun (c : j < 1) => ?_) (fun (c : ¬ j < 1) => ?_)
    · rw [iR_lo c] at hk
      exact zz_et hk
    refine And.intro (fun (c2 : 9 < j) => ?_) (fun (c2 : ¬ 9 < j) => ?_)
    · rw [iR_hi (fun z => by rw [zn_le] at z; rw [zn_lt] at c2; omega)] at hk
      exact zz_et hk
    have e1 : (1 : Int32).toInt = 1 := by decide
    have e0 : (0 : Int32).toInt = 0 := by decide
    obtain ⟨q, hq, rfl⟩ := iR_n (hi := 9) (v := j) (by decide) (iR_t (by rw [zn_le, e0]; rw [zn_lt, e1] at c; omega) (zn_nl c2))
    have e : (nI q).toNatClampNeg = q := nI_clamp (by omega)
    have i1 := zn_in (show q < 10 by omega) (show 10 < 2 ^ 31 by decide)
    rw [iR_t (zn_nl c) (zn_nl c2)] at hk
    dsimp only at hk
    refine (And.intro (And.intro rfl (And.intro rfl (And.intro rfl (And.intro (by decide) (by decide))))) ?_)
    refine Exists.intro true (Exists.intro [.ref 1, .ref 3, .ref 4, .ref 10, .ref 15, .ref 32, .ref 18, .int wr] (Exists.intro ((tb, tl), pa, (rk, mr, fr, bf, un), (kd, sz, mb, co), (wh, hd, gs)) (Exists.intro sp (Exists.intro R (Exists.intro ((le, ge, re, lo, nc), rc, (nx, nn, nk, nr), (wa, si, fh, lh), sc) (Exists.intro q (And.intro (by omega) (And.intro rfl (And.intro rfl (?_))))))))))
    by_cases c3 : le q = -1
    · rw [e, decide_eq_true c3] at hk
      exact And.intro (fun (z : ¬ zb (!decide (le q = -1)) = 0) => absurd (by rw [decide_eq_true c3]; rfl) z) (fun _ => zz_et hk)
    refine And.intro (fun _ => ?_) (fun (z : zb (!decide (le q = -1)) = 0) => absurd (by rw [decide_eq_false c3] at z; exact z) (by decide))
    rw [show decide (le (nI q).toNatClampNeg = -1) = false by rw [e]; exact decide_eq_false c3] at hk
    refine And.intro (fun (d0 : w = 0) => ?_) (fun (d0 : ¬ w = 0) => ?_)
    · rw [show iR 0 4 w = true by rw [d0]; decide] at hk
      have hk : k (some (.int (aRule ((le, ge, re, lo, nc), rc, (nx, nn, nk, nr), (wa, si, fh, lh), sc) (nI q) w))) (gC ((tb, tl), pa, (rk, mr, fr, bf, un), (kd, sz, mb, co), (wh, hd, gs), ((le, ge, re, lo, nc), rc, (nx, nn, nk, nr), (wa, si, fh, lh), sc), sp, true, wr) ++ R) := hk
      unfold aRule at hk
      rw [if_pos d0] at hk
      exact And.intro i1 (zz_e0 hk)
    refine And.intro (fun (d1 : w = 1) => ?_) (fun (d1 : ¬ w = 1) => ?_)
    · rw [show iR 0 4 w = true by rw [d1]; decide] at hk
      have hk : k (some (.int (aRule ((le, ge, re, lo, nc), rc, (nx, nn, nk, nr), (wa, si, fh, lh), sc) (nI q) w))) (gC ((tb, tl), pa, (rk, mr, fr, bf, un), (kd, sz, mb, co), (wh, hd, gs), ((le, ge, re, lo, nc), rc, (nx, nn, nk, nr), (wa, si, fh, lh), sc), sp, true, wr) ++ R) := hk
      unfold aRule at hk
      rw [if_neg d0, if_pos d1] at hk
      exact And.intro i1 (zz_e0 hk)
    refine And.intro (fun (d2 : w = 2) => ?_) (fun (d2 : ¬ w = 2) => ?_)
    · rw [show iR 0 4 w = true by rw [d2]; decide] at hk
      have hk : k (some (.int (aRule ((le, ge, re, lo, nc), rc, (nx, nn, nk, nr), (wa, si, fh, lh), sc) (nI q) w))) (gC ((tb, tl), pa, (rk, mr, fr, bf, un), (kd, sz, mb, co), (wh, hd, gs), ((le, ge, re, lo, nc), rc, (nx, nn, nk, nr), (wa, si, fh, lh), sc), sp, true, wr) ++ R) := hk
      unfold aRule at hk
      rw [if_neg d0, if_neg d1, if_pos d2] at hk
      exact And.intro i1 (zz_e0 hk)
    refine And.intro (fun (d3 : w = 3) => ?_) (fun (d3 : ¬ w = 3) => ?_)
    · rw [show iR 0 4 w = true by rw [d3]; decide] at hk
      have hk : k (some (.int (aRule ((le, ge, re, lo, nc), rc, (nx, nn, nk, nr), (wa, si, fh, lh), sc) (nI q) w))) (gC ((tb, tl), pa, (rk, mr, fr, bf, un), (kd, sz, mb, co), (wh, hd, gs), ((le, ge, re, lo, nc), rc, (nx, nn, nk, nr), (wa, si, fh, lh), sc), sp, true, wr) ++ R) := hk
      unfold aRule at hk
      rw [if_neg d0, if_neg d1, if_neg d2, if_pos d3] at hk
      exact And.intro i1 (zz_e0 hk)
    refine And.intro (fun (d4 : w = 4) => ?_) (fun (d4 : ¬ w = 4) => ?_)
    · rw [show iR 0 4 w = true by rw [d4]; decide] at hk
      have hk : k (some (.int (aRule ((le, ge, re, lo, nc), rc, (nx, nn, nk, nr), (wa, si, fh, lh), sc) (nI q) w))) (gC ((tb, tl), pa, (rk, mr, fr, bf, un), (kd, sz, mb, co), (wh, hd, gs), ((le, ge, re, lo, nc), rc, (nx, nn, nk, nr), (wa, si, fh, lh), sc), sp, true, wr) ++ R) := hk
      unfold aRule at hk
      rw [if_neg d0, if_neg d1, if_neg d2, if_neg d3] at hk
      exact And.intro i1 (zz_e0 hk)
    rw [iR_04 d0 d1 d2 d3 d4] at hk
    exact zz_et hk
theorem recv_Cr_rule : ∀ As ws k x, pt_Cr_rule As ws k x → ∃ q As' fs, As = .ref q :: As' ∧ ws[q]? = some (.inr (0, fs)) := by
  rintro As ws k x ⟨s, R, j, w, rfl, rfl, hk⟩
  exact ⟨_, _, _, rfl, rfl⟩
/-- byte i of w, the lowest is 0 -/
def sB (w : Int64) (i : Nat) : Nat := w.toBitVec.toNat / 2 ^ (8 * i) % 256
/-- the tape behind i bytes more, from l on -/
def sT (w : Int64) : Nat → qA → Nat → qA
  | 0, tb, _ => tb
  | i + 1, tb, l => sT w i (upd tb l (nI (sB w i))) (l + 1)
theorem sB_lt {w : Int64} {i : Nat} : sB w i < 256 := Nat.mod_lt _ (by decide)
theorem sT_by8 {w : Int64} : ∀ (i l : Nat) (tb : qA), by8 tb l → l + i ≤ 300 → by8 (sT w i tb l) (l + i) := by
  intro i
  induction i with
  | zero => intro l tb h _; exact h
  | succ i ih =>
    intro l tb h hl
    have := ih (l + 1) (upd tb l (nI (sB w i))) ⟨by omega, fun j hj => ?_⟩ (by omega)
    · rw [show l + (i + 1) = l + 1 + i by omega]; exact this
    · by_cases q : j = l
      · exact ⟨sB w i, sB_lt, by rw [q]; exact pk_us⟩
      · obtain ⟨b, hb, e⟩ := h.2 j (by omega)
        exact ⟨b, hb, by rw [pk_un q]; exact e⟩
theorem sb_u : ∀ k, k < 8 → ((8 * nI k).toInt64.toUInt64 &&& Int64.toUInt64 63) = UInt64.ofNat (8 * k) := by decide +kernel
theorem sb_s : ∀ k, k < 8 → ((8 * nI k).toInt64 &&& 63) = Int64.ofNat (8 * k) := by decide +kernel
theorem i255 (x : Int32) : x &&& 255 = nI (x.toBitVec.toNat % 256) := by
  apply Int32.toBitVec_inj.mp
  apply BitVec.eq_of_toNat_eq
  show (x.toBitVec &&& 255#32).toNat = (BitVec.ofNat 32 _).toNat
  rw [BitVec.toNat_and, BitVec.toNat_ofNat, BitVec.toNat_ofNat]
  rw [show (255 % 2 ^ 32 : Nat) = 2 ^ 8 - 1 by decide, Nat.and_two_pow_sub_one_eq_mod]
  have : x.toBitVec.toNat % 256 < 256 := Nat.mod_lt _ (by decide)
  rw [Nat.mod_eq_of_lt (a := x.toBitVec.toNat % 256) (by omega)]
theorem sB_byte {w : Int64} {i : Nat} (hi : i < 8) : ((w.toUInt64 >>> ((8 * nI i).toInt64.toUInt64 &&& Int64.toUInt64 63)).toInt64.toInt32 &&& 255) = nI (sB w i) := by
  rw [sb_u i hi, i255]
  congr 1
  unfold sB
  have e : ((w.toUInt64 >>> UInt64.ofNat (8 * i)).toInt64.toInt32).toBitVec.toNat = w.toBitVec.toNat / 2 ^ (8 * i) % 2 ^ 32 := by
    show ((w.toBitVec >>> ((BitVec.ofNat 64 (8 * i)) % 64#64)).signExtend 32).toNat = _
    rw [BitVec.signExtend_eq_setWidth_of_le _ (by decide), BitVec.toNat_setWidth, BitVec.ushiftRight_eq', BitVec.toNat_ushiftRight, Nat.shiftRight_eq_div_pow]
    rw [BitVec.toNat_umod, BitVec.toNat_ofNat, BitVec.toNat_ofNat]
    rw [show (64 % 2 ^ 64 : Nat) = 64 by decide, Nat.mod_eq_of_lt (show 8 * i < 2 ^ 64 by omega), Nat.mod_eq_of_lt (show 8 * i < 64 by omega)]
  rw [e, Nat.mod_mod_of_dvd _ (by decide)]
def oSign (tl m : Int32) : Nat := bif !iR 1 8 m then 1 else bif decide (300 < tl + m) then 2 else 0
def pt_Cr_sign : zz_PT := fun As ws k x => ∃ (s : qC) (R : List va_E) (n : Nat) (w : Int64) (m : Int32), s.1.2 = nI n ∧ n ≤ 300 ∧ As = [.ref 0, .long w, .int m] ∧ ws = gC s ++ R ∧ zo (oSign s.1.2 m) (x "java/lang/IndexOutOfBoundsException" ws) (x "java/lang/UnsupportedOperationException" ws) False (k (some (.int (nI (n + m.toNatClampNeg)))) (gC ((sT w m.toNatClampNeg s.1.1 n, nI (n + m.toNatClampNeg)), s.2) ++ R))
set_option maxHeartbeats 4000000 in
set_option maxRecDepth 100000 in
theorem m_Cr_sign (l : Launch) (hl : l.stackTraces = false) : zz_M zz_CL l y_Cr_sign (Cond.code y_Cr_sign c_Cr_sign 5 (some .int) :: zz_big) (zz_rm 6 82 1 6) (3, false, 0, 0, pt_Cr_sign) := by
  refine zz_M_of (HOST := "CrewRules") (L := [(0, 77, (2, false, 0, 0, pt_Ta_append))]) (sw := sw_Cr_sign) (pg := pg_Cr_sign) (th := th_Cr_sign) (ini := false) (by decide +kernel) zz_static (fun h => nomatch h) (by decide) (by decide) ok_Cr_sign (zz_cons (zz_ev_V (m_Ta_append l) yw_Ta_append yv_Ta_append lk_Cr_77 ⟨rfl, rfl, by decide, by decide⟩ (ci := 1) rfl recv_Ta_append) zz_nil) (tk_Cr_sign hl (by decide) (by decide)) (zz_VC1 100 51 [true, true, true, true, true] rfl ?_)
  rintro As ws k x ⟨⟨⟨tb, tl⟩, pa, ⟨rk, mr, fr, bf, un⟩, ⟨kd, sz, mb, co⟩, ⟨wh, hd, gs⟩, bk, sp, fl, wr⟩, R, n, w, m, h1, hn, rfl, rfl, hk⟩
  dsimp only at h1 hk
  subst h1
  unfold oSign at hk
  refine ⟨Nat.le_of_ble_eq_true rfl, fun z ls st ws nc1 ns => ∃ (i l2 : Nat) (t2 : qA), i ≤ 8 ∧ z = i ∧ l2 + i ≤ 300 ∧ k (some (.int (nI (l2 + i)))) (gC (((sT w i t2 l2), (nI (l2 + i))), pa, (rk, mr, fr, bf, un), (kd, sz, mb, co), (wh, hd, gs), bk, sp, fl, wr) ++ R) ∧ ls = [some (.ref 0), some (.long w), none, some (.int m), some (.int (nI i - 1))] ∧ st = [] ∧ ws = gC ((t2, (nI l2)), pa, (rk, mr, fr, bf, un), (kd, sz, mb, co), (wh, hd, gs), bk, sp, fl, wr) ++ R ∧ nc1 = 0 ∧ ns = 0, ?_, ?_⟩
  · rintro z ls st ws nc1 ns ⟨i, l2, t2, hi, rfl, hl, hk, rfl, rfl, rfl, rfl, rfl⟩
    cases z with
    | zero =>
      exact And.intro (fun _ => zz_e0 hk) (fun (c : ¬ nI 0 - 1 < 0) => absurd (by decide) c)
    | succ i =>
      have e : nI (i + 1) - 1 = nI i := nI_pr1 (by omega)
      refine And.intro (fun (c : nI (i + 1) - 1 < 0) => absurd c (by rw [e, zn_lt, nI_toInt (by omega), show (0 : Int32).toInt = 0 by decide]; omega)) (fun (c : ¬ nI (i + 1) - 1 < 0) => ?_)
      have hb := sB_byte (w := w) (i := i) (by omega)
      rw [← e] at hb
      refine (And.intro (And.intro rfl (And.intro rfl (And.intro rfl (And.intro (by decide) (by decide))))) ?_)
      refine Exists.intro ((t2, (nI l2)), pa, (rk, mr, fr, bf, un), (kd, sz, mb, co), (wh, hd, gs), bk, sp, fl, wr) (Exists.intro R (Exists.intro l2 (Exists.intro _ (And.intro rfl (And.intro (by omega) (And.intro rfl (And.intro rfl (?_))))))))
      rw [hb]
      refine Exists.intro i (And.intro (Nat.lt_succ_self i) ⟨i, l2 + 1, upd t2 l2 (nI (sB w i)), by omega, rfl, by omega, ?_, ?_, rfl, rfl, rfl, rfl⟩)
      · rw [show l2 + 1 + i = l2 + (i + 1) by omega]; exact hk
      · show [some (Value.ref 0), some (Value.long w), none, some (Value.int m), some (Value.int (nI (i + 1) - 1 + (-1)))] = _
        rw [e, Int32.sub_eq_add_neg]
  · refine And.intro (fun (c : m < 1) => ?_) (fun (c : ¬ m < 1) => ?_)
    · rw [iR_lo c] at hk
      exact zz_et hk
    refine And.intro (fun (c2 : m ≤ 8) => ?_) (fun (c2 : ¬ m ≤ 8) => ?_)
    rotate_left
    · rw [iR_hi c2] at hk
      exact zz_et hk
    have e1 : (1 : Int32).toInt = 1 := by decide
    have e0 : (0 : Int32).toInt = 0 := by decide
    obtain ⟨q, hq, rfl⟩ := iR_n (hi := 8) (v := m) (by decide) (iR_t (by rw [zn_le, e0]; rw [zn_lt, e1] at c; omega) c2)
    rw [iR_t (zn_nl c) c2, nI_clamp (show q < 2 ^ 31 by omega)] at hk
    refine And.intro (fun (c3 : nI n + nI q ≤ 300) => ?_) (fun (c3 : ¬ nI n + nI q ≤ 300) => ?_)
    rotate_left
    · rw [decide_eq_true (p := 300 < nI n + nI q) (by rw [zn_lt]; rw [zn_le] at c3; omega)] at hk
      exact zz_et hk
    rw [decide_eq_false (p := 300 < nI n + nI q) (fun z => by rw [zn_lt] at z; rw [zn_le] at c3; omega)] at hk
    rw [nI_add] at c3
    have hnq : n + q ≤ 300 := (nI_leI (b := 300) (by omega) (by decide)).mp c3
    exact Exists.intro q (And.intro trivial ⟨q, n, tb, hq, rfl, hnq, hk, rfl, rfl, rfl, rfl, rfl⟩)
theorem recv_Cr_sign : ∀ As ws k x, pt_Cr_sign As ws k x → ∃ q As' fs, As = .ref q :: As' ∧ ws[q]? = some (.inr (0, fs)) := by
  rintro As ws k x ⟨s, R, n, w, m, h1, hn, rfl, rfl, hk⟩
  exact ⟨_, _, _, rfl, rfl⟩
def pt_Cr_read : zz_PT := fun As ws k x => ∃ (s : qC) (R : List va_E) (n : Nat), s.1.2 = nI n ∧ by8 s.1.1 n ∧ As = [.ref 0] ∧ ws = gC s ++ R ∧ ∀ (le : qA) (r : Int32 × Nat × qB), (∀ j, j < 10 → le j = -1) → r = pText s.1.1 n 300 0 (bClear s.2.2.2.2.2.2.1 le) → (¬ r.1 = -1 → x "java/lang/IllegalStateException" (gC ((s.1.1, 0), nI r.2.1, s.2.2.1, s.2.2.2.1, s.2.2.2.2.1, s.2.2.2.2.2.1, r.2.2, s.2.2.2.2.2.2.2.1, r.1) ++ R)) ∧ (r.1 = -1 → k (some (.int r.2.2.2.1)) (gC ((s.1.1, 0), nI r.2.1, s.2.2.1, s.2.2.2.1, s.2.2.2.2.1, r.2.2, s.2.2.2.2.2.1, !s.2.2.2.2.2.2.2.1, -1) ++ R))
set_option maxHeartbeats 4000000 in
set_option maxRecDepth 100000 in
theorem m_Cr_read (l : Launch) (hl : l.stackTraces = false) : zz_M zz_CL l y_Cr_read (Cond.code y_Cr_read c_Cr_read 2 (some .int) :: zz_big) (zz_rm 7 159 1 6) (1, false, 0, 0, pt_Cr_read) := by
  refine zz_M_of (HOST := "CrewRules") (L := [(0, 81, (2, false, 0, 0, pt_Pa_parse)), (0, 85, (1, false, 0, 0, pt_Ta_clear))]) (sw := sw_Cr_read) (pg := pg_Cr_read) (th := th_Cr_read) (ini := false) (by decide +kernel) zz_static (fun h => nomatch h) (by decide) (by decide) ok_Cr_read (zz_cons (zz_ev_V (m_Pa_parse l) yw_Pa_parse yv_Pa_parse lk_Cr_81 ⟨rfl, rfl, by decide, by decide⟩ (ci := 2) rfl recv_Pa_parse) (zz_cons (zz_ev_V (m_Ta_clear l) yw_Ta_clear yv_Ta_clear lk_Cr_85 ⟨rfl, rfl, by decide, by decide⟩ (ci := 1) rfl recv_Ta_clear) zz_nil)) (tk_Cr_read hl (by decide) (by decide)) (zz_VC0 80 ?_)
  rintro As ws k x ⟨⟨⟨tb, tl⟩, pa, ⟨rk, mr, fr, bf, un⟩, ⟨kd, sz, mb, co⟩, ⟨wh, hd, gs⟩, bk, sp, fl, wr⟩, R, n, h1, h8, rfl, rfl, hk⟩
  dsimp only at h1 h8 hk
  subst h1
  refine ⟨Nat.le_of_ble_eq_true rfl, ?_⟩
  cases fl
  · skip
    refine (And.intro (And.intro rfl (And.intro rfl (And.intro rfl (And.intro (by decide) (by decide))))) ?_)
    refine Exists.intro ((tb, (nI n)), pa, (rk, mr, fr, bf, un), (kd, sz, mb, co), (wh, hd, gs), bk, sp, false, wr) (Exists.intro R (Exists.intro n (And.intro rfl (And.intro h8 (And.intro rfl (And.intro rfl (?_)))))))
    intro le hle
    obtain ⟨h2, h3⟩ := hk le _ hle rfl
    generalize pText tb n 300 0 (bClear sp le) = r at h2 h3 ⊢
    obtain ⟨r1, r2, ⟨⟨le, ge, re, lo, nc⟩, rc, ⟨nx, nn, nk, nr⟩, ⟨wa, si, fh, lh⟩, sc⟩⟩ := r
    dsimp only at h2 h3
    refine (And.intro (And.intro rfl (And.intro rfl (And.intro rfl (And.intro (by decide) (by decide))))) ?_)
    refine Exists.intro ((tb, (nI n)), (nI r2), (rk, mr, fr, bf, un), (kd, sz, mb, co), (wh, hd, gs), bk, ((le, ge, re, lo, nc), rc, (nx, nn, nk, nr), (wa, si, fh, lh), sc), false, r1) (Exists.intro R (And.intro rfl (And.intro rfl (?_))))
    refine And.intro (fun (c : r1 = -1) => ?_) (fun (c : ¬ r1 = -1) => zz_et (h2 c))
    subst c
    exact zz_e0 (h3 rfl)
  · skip
    refine (And.intro (And.intro rfl (And.intro rfl (And.intro rfl (And.intro (by decide) (by decide))))) ?_)
    refine Exists.intro ((tb, (nI n)), pa, (rk, mr, fr, bf, un), (kd, sz, mb, co), (wh, hd, gs), bk, sp, true, wr) (Exists.intro R (Exists.intro n (And.intro rfl (And.intro h8 (And.intro rfl (And.intro rfl (?_)))))))
    intro le hle
    obtain ⟨h2, h3⟩ := hk le _ hle rfl
    generalize pText tb n 300 0 (bClear sp le) = r at h2 h3 ⊢
    obtain ⟨r1, r2, ⟨⟨le, ge, re, lo, nc⟩, rc, ⟨nx, nn, nk, nr⟩, ⟨wa, si, fh, lh⟩, sc⟩⟩ := r
    dsimp only at h2 h3
    refine (And.intro (And.intro rfl (And.intro rfl (And.intro rfl (And.intro (by decide) (by decide))))) ?_)
    refine Exists.intro ((tb, (nI n)), (nI r2), (rk, mr, fr, bf, un), (kd, sz, mb, co), (wh, hd, gs), bk, ((le, ge, re, lo, nc), rc, (nx, nn, nk, nr), (wa, si, fh, lh), sc), true, r1) (Exists.intro R (And.intro rfl (And.intro rfl (?_))))
    refine And.intro (fun (c : r1 = -1) => ?_) (fun (c : ¬ r1 = -1) => zz_et (h2 c))
    subst c
    exact zz_e0 (h3 rfl)
theorem recv_Cr_read : ∀ As ws k x, pt_Cr_read As ws k x → ∃ q As' fs, As = .ref q :: As' ∧ ws[q]? = some (.inr (0, fs)) := by
  rintro As ws k x ⟨s, R, n, h1, h8, rfl, rfl, hk⟩
  exact ⟨_, _, _, rfl, rfl⟩
