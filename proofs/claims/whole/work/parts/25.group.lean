/-! ===== Group ===== -/
/-- is there below j one who counts alone in crew c and is a mentor, no learner -/
def cm (mb : Nat → Int64) (co mr : qA) (c : Nat) : Nat → Bool
  | 0 => false
  | j + 1 => cm mb co mr c j || (ca mb co c j && pm mr j)
theorem cm_mono {mb : Nat → Int64} {co mr : qA} {c : Nat} : ∀ {j n : Nat}, j ≤ n → cm mb co mr c j = true → cm mb co mr c n = true := by
  intro j n h hj
  induction n with
  | zero => rw [Nat.le_zero.mp h] at hj; exact hj
  | succ n ih =>
    rcases Nat.lt_or_ge j (n + 1) with q | q
    · show (cm mb co mr c n || _) = true
      rw [ih (by omega)]; rfl
    · rw [show n + 1 = j by omega]; exact hj
def pt_Gr_hasFullMentor : zz_PT := fun As ws k _ => ∃ (s : qC) (R : List va_E) (c : Nat), c < 20 ∧ As = [.ref 15, .int (nI c)] ∧ ws = gC s ++ R ∧ k (some (.int (zb (cm s.2.2.2.1.2.2.1 s.2.2.2.1.2.2.2 s.2.2.1.2.1 c 50)))) ws
set_option maxHeartbeats 4000000 in
set_option maxRecDepth 100000 in
theorem m_Gr_hasFullMentor (l : Launch) : zz_M zz_CL l y_Gr_hasFullMentor (Cond.code y_Gr_hasFullMentor c_Gr_hasFullMentor 3 (some .boolean) :: zz_big) (zz_rm 3 64 1 6) (2, false, 0, 0, pt_Gr_hasFullMentor) := by
  refine zz_M_of (HOST := "CrewRules") (L := [(0, 34, (3, false, 0, 0, pt_Cw_hasAlone)), (0, 45, (2, false, 0, 0, pt_Pe_isFullMentor))]) (sw := sw_Gr_hasFullMentor) (pg := pg_Gr_hasFullMentor) (th := th_Gr_hasFullMentor) (ini := false) (by decide +kernel) zz_static (fun h => nomatch h) (by decide) (by decide) ok_Gr_hasFullMentor (zz_cons (zz_ev_V (m_Cw_hasAlone l) yw_Cw_hasAlone yv_Cw_hasAlone lk_Gr_34 ⟨rfl, rfl, by decide, by decide⟩ (ci := 4) rfl recv_Cw_hasAlone) (zz_cons (zz_ev_V (m_Pe_isFullMentor l) yw_Pe_isFullMentor yv_Pe_isFullMentor lk_Gr_45 ⟨rfl, rfl, by decide, by decide⟩ (ci := 3) rfl recv_Pe_isFullMentor) zz_nil)) (fun pc E h => (nomatch h)) (zz_VC1 60 2 [true, true, true] rfl ?_)
  rintro As ws k x ⟨⟨⟨tb, tl⟩, pa, ⟨rk, mr, fr, bf, un⟩, ⟨kd, sz, mb, co⟩, ⟨wh, hd, gs⟩, bk, sp, fl, wr⟩, R, c, hc, rfl, rfl, hk⟩
  dsimp only at hk
  refine ⟨Nat.le_of_ble_eq_true rfl, fun n ls st ws nc ns => ∃ j, j ≤ 50 ∧ n = 50 - j ∧ cm mb co mr c j = false ∧ ls = [some (.ref 15), some (.int (nI c)), some (.int (nI j))] ∧ st = [] ∧ ws = gC ((tb, tl), pa, (rk, mr, fr, bf, un), (kd, sz, mb, co), (wh, hd, gs), bk, sp, fl, wr) ++ R ∧ nc = 0 ∧ ns = 0, ?_, ?_⟩
  · rintro n ls st ws nc ns ⟨j, hj, rfl, hcs, rfl, rfl, rfl, rfl, rfl⟩
    refine And.intro (fun (c1 : 50 ≤ nI j) => ?_) (fun (c1 : ¬ 50 ≤ nI j) => (And.intro (And.intro rfl (And.intro rfl (And.intro rfl (And.intro (by decide) (by decide))))) ?_))
    · have : j = 50 := by
        have := (nI_leI (a := 50) (by decide) (by omega)).mp c1
        omega
      subst this
      rw [hcs] at hk
      exact zz_eb (b := false) hk
    · have hj2 : j < 50 := Nat.lt_of_not_le (fun z : 50 ≤ j => c1 (nI_le z (by omega)))
      have hnext : cm mb co mr c (j + 1) = (ca mb co c j && pm mr j) := by
        show (cm mb co mr c j || _) = _
        rw [hcs]; rfl
      have stay : cm mb co mr c (j + 1) = false → (∃ n', n' < 50 - j ∧ ∃ j', j' ≤ 50 ∧ n' = 50 - j' ∧ cm mb co mr c j' = false ∧ [some (Value.ref 15), some (Value.int (nI c)), some (Value.int (nI j + 1))] = [some (Value.ref 15), some (Value.int (nI c)), some (Value.int (nI j'))] ∧ ([] : List Value) = [] ∧ gC ((tb, tl), pa, (rk, mr, fr, bf, un), (kd, sz, mb, co), (wh, hd, gs), bk, sp, fl, wr) ++ R = gC ((tb, tl), pa, (rk, mr, fr, bf, un), (kd, sz, mb, co), (wh, hd, gs), bk, sp, fl, wr) ++ R ∧ 0 = 0 ∧ 0 = 0) := fun h => ⟨50 - (j + 1), by omega, j + 1, hj2, rfl, h, by rw [← nI_1], rfl, rfl, rfl, rfl⟩
      refine Exists.intro ((tb, tl), pa, (rk, mr, fr, bf, un), (kd, sz, mb, co), (wh, hd, gs), bk, sp, fl, wr) (Exists.intro R (Exists.intro c (Exists.intro j (And.intro hc (And.intro hj2 (And.intro rfl (And.intro rfl (?_))))))))
      refine And.intro (fun c2 => ?_) (fun c2 => (And.intro (And.intro rfl (And.intro rfl (And.intro rfl (And.intro (by decide) (by decide))))) ?_))
      · exact stay (by rw [hnext, zb_0.mp c2]; rfl)
      · refine Exists.intro ((tb, tl), pa, (rk, mr, fr, bf, un), (kd, sz, mb, co), (wh, hd, gs), bk, sp, fl, wr) (Exists.intro R (Exists.intro j (And.intro hj2 (And.intro rfl (And.intro rfl (?_))))))
        refine And.intro (fun c3 => ?_) (fun c3 => ?_)
        · exact stay (by rw [hnext, zb_n.mp c2, zb_0.mp c3]; rfl)
        · have h1 : cm mb co mr c (j + 1) = true := by rw [hnext, zb_n.mp c2, zb_n.mp c3]; rfl
          rw [cm_mono hj2 h1] at hk
          exact zz_eb (b := true) hk
  · exact Exists.intro 50 (And.intro trivial ⟨0, by decide, rfl, rfl, rfl, rfl, rfl, rfl, rfl⟩)
theorem recv_Gr_hasFullMentor : ∀ As ws k x, pt_Gr_hasFullMentor As ws k x → ∃ q As' fs, As = .ref q :: As' ∧ ws[q]? = some (.inr (5, fs)) := by
  rintro As ws k x ⟨s, R, c, hc, rfl, rfl, hk⟩
  exact ⟨_, _, _, rfl, rfl⟩
/-- who counts in crew c, below j, rising -/
def ck (mb : Nat → Int64) (co mr : qA) (c j : Nat) : Bool := ca mb co c j && (cm mb co mr c 50 || !pl mr j)
def cg (mb : Nat → Int64) (co mr : qA) (c : Nat) : Nat → List Nat
  | 0 => []
  | j + 1 => bif ck mb co mr c j then cg mb co mr c j ++ [j] else cg mb co mr c j
theorem cg_len {mb : Nat → Int64} {co mr : qA} {c : Nat} : ∀ j, (cg mb co mr c j).length ≤ j
  | 0 => Nat.le_refl _
  | j + 1 => by
    have := cg_len (mb := mb) (co := co) (mr := mr) (c := c) j
    unfold cg
    cases ck mb co mr c j
    · exact Nat.le_succ_of_le this
    · show (cg mb co mr c j ++ [j]).length ≤ j + 1
      rw [List.length_append]
      exact Nat.succ_le_succ this
/-- the group's rows hold the list -/
def gk (wh : qA) (gs : Int32) (L : List Nat) : Prop := gs = nI L.length ∧ L.length ≤ 50 ∧ ∀ (j p : Nat), L[j]? = some p → wh j = nI p ∧ p < 50
theorem gk_push {wh : qA} {L : List Nat} {j : Nat} (h : gk wh (nI L.length) L) (hl : L.length < 50) (hj : j < 50) : gk (upd wh L.length (nI j)) (nI (L.length + 1)) (L ++ [j]) := by
  obtain ⟨-, h2, h3⟩ := h
  refine ⟨by rw [List.length_append]; rfl, by rw [List.length_append]; exact hl, fun i p hi => ?_⟩
  by_cases q : i < L.length
  · rw [List.getElem?_append_left q] at hi
    rw [pk_un (by omega)]
    exact h3 i p hi
  · rw [List.getElem?_append_right (by omega)] at hi
    have hz : i - L.length < 1 := (List.getElem?_eq_some_iff.mp hi).1
    have hi0 : i = L.length := by omega
    subst hi0
    rw [Nat.sub_self] at hi
    cases hi
    exact ⟨pk_us, hj⟩
def pt_Gr_gatherCrew : zz_PT := fun As ws k _ => ∃ (s : qC) (R : List va_E) (c : Nat), c < 20 ∧ As = [.ref 15, .int (nI c)] ∧ ws = gC s ++ R ∧ ∀ (wh : qA) (gs : Int32), gk wh gs (cg s.2.2.2.1.2.2.1 s.2.2.2.1.2.2.2 s.2.2.1.2.1 c 50) → k none (gC (s.1, s.2.1, s.2.2.1, s.2.2.2.1, (wh, s.2.2.2.2.1.2.1, gs), s.2.2.2.2.2) ++ R)
set_option maxHeartbeats 4000000 in
set_option maxRecDepth 100000 in
theorem m_Gr_gatherCrew (l : Launch) : zz_M zz_CL l y_Gr_gatherCrew (Cond.code y_Gr_gatherCrew c_Gr_gatherCrew 4 none :: zz_big) (zz_rm 4 86 1 6) (2, false, 0, 0, pt_Gr_gatherCrew) := by
  refine zz_M_of (HOST := "CrewRules") (L := [(0, 30, (2, false, 0, 0, pt_Gr_hasFullMentor)), (0, 34, (3, false, 0, 0, pt_Cw_hasAlone)), (0, 40, (2, false, 0, 0, pt_Pe_isLearner))]) (sw := sw_Gr_gatherCrew) (pg := pg_Gr_gatherCrew) (th := th_Gr_gatherCrew) (ini := false) (by decide +kernel) zz_static (fun h => nomatch h) (by decide) (by decide) ok_Gr_gatherCrew (zz_cons (zz_ev_V (m_Gr_hasFullMentor l) yw_Gr_hasFullMentor yv_Gr_hasFullMentor lk_Gr_30 ⟨rfl, rfl, by decide, by decide⟩ (ci := 5) rfl recv_Gr_hasFullMentor) (zz_cons (zz_ev_V (m_Cw_hasAlone l) yw_Cw_hasAlone yv_Cw_hasAlone lk_Gr_34 ⟨rfl, rfl, by decide, by decide⟩ (ci := 4) rfl recv_Cw_hasAlone) (zz_cons (zz_ev_V (m_Pe_isLearner l) yw_Pe_isLearner yv_Pe_isLearner lk_Gr_40 ⟨rfl, rfl, by decide, by decide⟩ (ci := 3) rfl recv_Pe_isLearner) zz_nil))) (fun pc E h => (nomatch h)) (zz_VC1 80 13 [true, true, true, true] rfl ?_)
  rintro As ws k x ⟨⟨⟨tb, tl⟩, pa, ⟨rk, mr, fr, bf, un⟩, ⟨kd, sz, mb, co⟩, ⟨wh, hd, gs⟩, bk, sp, fl, wr⟩, R, c, hc, rfl, rfl, hk⟩
  dsimp only at hk
  refine ⟨Nat.le_of_ble_eq_true rfl, fun n ls st ws nc ns => ∃ (j : Nat) (w2 : qA), j ≤ 50 ∧ n = 50 - j ∧ gk w2 (nI (cg mb co mr c j).length) (cg mb co mr c j) ∧ ls = [some (.ref 15), some (.int (nI c)), some (.int (zb (cm mb co mr c 50))), some (.int (nI j))] ∧ st = [] ∧ ws = gC ((tb, tl), pa, (rk, mr, fr, bf, un), (kd, sz, mb, co), (w2, hd, (nI (cg mb co mr c j).length)), bk, sp, fl, wr) ++ R ∧ nc = 0 ∧ ns = 0, ?_, ?_⟩
  · rintro n ls st ws nc ns ⟨j, w2, hj, rfl, hg, rfl, rfl, rfl, rfl, rfl⟩
    refine And.intro (fun (c1 : 50 ≤ nI j) => ?_) (fun (c1 : ¬ 50 ≤ nI j) => (And.intro (And.intro rfl (And.intro rfl (And.intro rfl (And.intro (by decide) (by decide))))) ?_))
    · have : j = 50 := by
        have := (nI_leI (a := 50) (by decide) (by omega)).mp c1
        omega
      subst this
      exact zz_ev0 (hk w2 _ hg)
    · have hj2 : j < 50 := Nat.lt_of_not_le (fun z : 50 ≤ j => c1 (nI_le z (by omega)))
      have hlen := cg_len (mb := mb) (co := co) (mr := mr) (c := c) j
      have e2 : (nI (cg mb co mr c j).length).toNatClampNeg = (cg mb co mr c j).length := nI_clamp (by omega)
      have i1 := zn_in (show (cg mb co mr c j).length < 50 by omega) (show 50 < 2 ^ 31 by decide)
      have skip : ck mb co mr c j = false → (∃ n', n' < 50 - j ∧ ∃ (j' : Nat) (w3 : qA), j' ≤ 50 ∧ n' = 50 - j' ∧ gk w3 (nI (cg mb co mr c j').length) (cg mb co mr c j') ∧ [some (Value.ref 15), some (Value.int (nI c)), some (.int (zb (cm mb co mr c 50))), some (Value.int (nI j + 1))] = [some (Value.ref 15), some (Value.int (nI c)), some (.int (zb (cm mb co mr c 50))), some (Value.int (nI j'))] ∧ ([] : List Value) = [] ∧ gC ((tb, tl), pa, (rk, mr, fr, bf, un), (kd, sz, mb, co), (w2, hd, (nI (cg mb co mr c j).length)), bk, sp, fl, wr) ++ R = gC ((tb, tl), pa, (rk, mr, fr, bf, un), (kd, sz, mb, co), (w3, hd, (nI (cg mb co mr c j').length)), bk, sp, fl, wr) ++ R ∧ 0 = 0 ∧ 0 = 0) := fun h => by
        have e3 : cg mb co mr c (j + 1) = cg mb co mr c j := by show (bif _ then _ else _) = _; rw [h]; rfl
        refine ⟨50 - (j + 1), by omega, j + 1, w2, hj2, rfl, by rw [e3]; exact hg, by rw [← nI_1], rfl, by rw [e3], rfl, rfl⟩
      have take : ck mb co mr c j = true → (∃ n', n' < 50 - j ∧ ∃ (j' : Nat) (w3 : qA), j' ≤ 50 ∧ n' = 50 - j' ∧ gk w3 (nI (cg mb co mr c j').length) (cg mb co mr c j') ∧ [some (Value.ref 15), some (Value.int (nI c)), some (.int (zb (cm mb co mr c 50))), some (Value.int (nI j + 1))] = [some (Value.ref 15), some (Value.int (nI c)), some (.int (zb (cm mb co mr c 50))), some (Value.int (nI j'))] ∧ ([] : List Value) = [] ∧ gC ((tb, tl), pa, (rk, mr, fr, bf, un), (kd, sz, mb, co), ((upd w2 (nI (cg mb co mr c j).length).toNatClampNeg (nI j)), hd, (nI (cg mb co mr c j).length + 1)), bk, sp, fl, wr) ++ R = gC ((tb, tl), pa, (rk, mr, fr, bf, un), (kd, sz, mb, co), (w3, hd, (nI (cg mb co mr c j').length)), bk, sp, fl, wr) ++ R ∧ 0 = 0 ∧ 0 = 0) := fun h => by
        have e3 : cg mb co mr c (j + 1) = cg mb co mr c j ++ [j] := by show (bif _ then _ else _) = _; rw [h]; rfl
        refine ⟨50 - (j + 1), by omega, j + 1, upd w2 (cg mb co mr c j).length (nI j), hj2, rfl, ?_, by rw [← nI_1], rfl, ?_, rfl, rfl⟩
        · rw [e3, List.length_append]
          exact gk_push hg (by omega) hj2
        · rw [e3, List.length_append, e2]
          show _ = gC ((tb, tl), pa, (rk, mr, fr, bf, un), (kd, sz, mb, co), (_, hd, nI ((cg mb co mr c j).length + 1)), bk, sp, fl, wr) ++ R
          rw [← nI_1]
      refine Exists.intro ((tb, tl), pa, (rk, mr, fr, bf, un), (kd, sz, mb, co), (w2, hd, (nI (cg mb co mr c j).length)), bk, sp, fl, wr) (Exists.intro R (Exists.intro c (Exists.intro j (And.intro hc (And.intro hj2 (And.intro rfl (And.intro rfl (?_))))))))
      refine And.intro (fun c2 => ?_) (fun c2 => ?_)
      · exact skip (by unfold ck; rw [zb_0.mp c2]; rfl)
      · refine And.intro (fun c3 => And.intro i1 ?_) (fun c3 => (And.intro (And.intro rfl (And.intro rfl (And.intro rfl (And.intro (by decide) (by decide))))) ?_))
        · exact take (by unfold ck; rw [zb_n.mp c2, zb_n.mp c3]; rfl)
        · refine Exists.intro ((tb, tl), pa, (rk, mr, fr, bf, un), (kd, sz, mb, co), (w2, hd, (nI (cg mb co mr c j).length)), bk, sp, fl, wr) (Exists.intro R (Exists.intro j (And.intro hj2 (And.intro rfl (And.intro rfl (?_))))))
          refine And.intro (fun c4 => ?_) (fun c4 => And.intro i1 ?_)
          · exact skip (by unfold ck; rw [zb_n.mp c2, zb_0.mp c3, zb_n.mp c4]; rfl)
          · exact take (by unfold ck; rw [zb_n.mp c2, zb_0.mp c3, zb_0.mp c4]; rfl)
  · refine (And.intro (And.intro rfl (And.intro rfl (And.intro rfl (And.intro (by decide) (by decide))))) ?_)
    refine Exists.intro ((tb, tl), pa, (rk, mr, fr, bf, un), (kd, sz, mb, co), (wh, hd, gs), bk, sp, fl, wr) (Exists.intro R (Exists.intro c (And.intro hc (And.intro rfl (And.intro rfl (?_))))))
    exact Exists.intro 50 (And.intro trivial ⟨0, wh, by decide, rfl, ⟨rfl, Nat.zero_le _, fun j p h => by cases h⟩, rfl, rfl, rfl, rfl, rfl⟩)
theorem recv_Gr_gatherCrew : ∀ As ws k x, pt_Gr_gatherCrew As ws k x → ∃ q As' fs, As = .ref q :: As' ∧ ws[q]? = some (.inr (5, fs)) := by
  rintro As ws k x ⟨s, R, c, hc, rfl, rfl, hk⟩
  exact ⟨_, _, _, rfl, rfl⟩
