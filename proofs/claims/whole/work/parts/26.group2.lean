theorem zt {L : List Nat} {j p : Nat} (h : L[j]? = some p) : L.take (j + 1) = L.take j ++ [p] := by
  rw [List.take_succ, h]; rfl
theorem zt_at {L : List Nat} {j : Nat} (h : j < L.length) : ∃ p, L[j]? = some p := ⟨L[j], List.getElem?_eq_getElem h⟩
def pt_Gr_gatherAll : zz_PT := fun As ws k _ => ∃ (s : qC) (R : List va_E), As = [.ref 15] ∧ ws = gC s ++ R ∧ ∀ (wh : qA), gk wh 50 (List.range 50) → k none (gC (s.1, s.2.1, s.2.2.1, s.2.2.2.1, (wh, s.2.2.2.2.1.2.1, 50), s.2.2.2.2.2) ++ R)
set_option maxHeartbeats 4000000 in
set_option maxRecDepth 100000 in
theorem m_Gr_gatherAll (l : Launch) : zz_M zz_CL l y_Gr_gatherAll (Cond.code y_Gr_gatherAll c_Gr_gatherAll 2 none :: zz_big) (zz_rm 1 20 1 6) (1, false, 0, 0, pt_Gr_gatherAll) := by
  refine zz_M_of (HOST := "CrewRules") (L := []) (sw := sw_Gr_gatherAll) (pg := pg_Gr_gatherAll) (th := th_Gr_gatherAll) (ini := false) (by decide +kernel) zz_static (fun h => nomatch h) (by decide) (by decide) ok_Gr_gatherAll zz_nil (fun pc E h => (nomatch h)) (zz_VC1 60 2 [true, true] rfl ?_)
  rintro As ws k x ⟨⟨⟨tb, tl⟩, pa, ⟨rk, mr, fr, bf, un⟩, ⟨kd, sz, mb, co⟩, ⟨wh, hd, gs⟩, bk, sp, fl, wr⟩, R, rfl, rfl, hk⟩
  dsimp only at hk
  refine ⟨Nat.le_of_ble_eq_true rfl, fun n ls st ws nc ns => ∃ (j : Nat) (w2 : qA), j ≤ 50 ∧ n = 50 - j ∧ (∀ i, i < j → w2 i = nI i) ∧ ls = [some (.ref 15), some (.int (nI j))] ∧ st = [] ∧ ws = gC ((tb, tl), pa, (rk, mr, fr, bf, un), (kd, sz, mb, co), (w2, hd, gs), bk, sp, fl, wr) ++ R ∧ nc = 0 ∧ ns = 0, ?_, ?_⟩
  · rintro n ls st ws nc ns ⟨j, w2, hj, rfl, hg, rfl, rfl, rfl, rfl, rfl⟩
    refine And.intro (fun (c1 : 50 ≤ nI j) => ?_) (fun (c1 : ¬ 50 ≤ nI j) => ?_)
    · have : j = 50 := by
        have := (nI_leI (a := 50) (by decide) (by omega)).mp c1
        omega
      subst this
      refine zz_ev0 (hk w2 ⟨rfl, by decide, fun i p hi => ?_⟩)
      obtain ⟨h1, h2⟩ := List.getElem?_eq_some_iff.mp hi
      rw [List.length_range] at h1
      rw [List.getElem_range] at h2
      subst h2
      exact ⟨hg i h1, h1⟩
    · have hj2 : j < 50 := Nat.lt_of_not_le (fun z : 50 ≤ j => c1 (nI_le z (by omega)))
      have e2 : (nI j).toNatClampNeg = j := nI_clamp (by omega)
      refine And.intro (zn_in hj2 (by decide)) ?_
      refine Exists.intro (50 - (j + 1)) (And.intro (by show 50 - (j + 1) < 50 - j; omega) ⟨j + 1, upd w2 (nI j).toNatClampNeg (nI j), hj2, rfl, ?_, by rw [← nI_1]; rfl, rfl, rfl, rfl, rfl⟩)
      intro i hi
      rw [e2]
      by_cases q : i = j
      · rw [q]; exact pk_us
      · rw [pk_un q]; exact hg i (by omega)
  · exact Exists.intro 50 (And.intro trivial ⟨0, wh, by decide, rfl, fun i hi => absurd hi (Nat.not_lt_zero i), rfl, rfl, rfl, rfl, rfl⟩)
theorem recv_Gr_gatherAll : ∀ As ws k x, pt_Gr_gatherAll As ws k x → ∃ q As' fs, As = .ref q :: As' ∧ ws[q]? = some (.inr (5, fs)) := by
  rintro As ws k x ⟨s, R, rfl, rfl, hk⟩
  exact ⟨_, _, _, rfl, rfl⟩
def pt_Gr_noteSkills : zz_PT := fun As ws k _ => ∃ (s : qC) (R : List va_E) (L : List Nat) (h : Int32), gk s.2.2.2.2.1.1 s.2.2.2.2.1.2.2 L ∧ As = [.ref 15, .int h] ∧ ws = gC s ++ R ∧ ∀ (hd : qA), (∀ (j p : Nat), L[j]? = some p → hd j = ph s.2.2.1.2.2.2.2 p h 10) → k none (gC (s.1, s.2.1, s.2.2.1, s.2.2.2.1, (s.2.2.2.2.1.1, hd, s.2.2.2.2.1.2.2), s.2.2.2.2.2) ++ R)
set_option maxHeartbeats 4000000 in
set_option maxRecDepth 100000 in
theorem m_Gr_noteSkills (l : Launch) : zz_M zz_CL l y_Gr_noteSkills (Cond.code y_Gr_noteSkills c_Gr_noteSkills 3 none :: zz_big) (zz_rm 2 44 1 6) (2, false, 0, 0, pt_Gr_noteSkills) := by
  refine zz_M_of (HOST := "CrewRules") (L := [(0, 48, (3, false, 0, 0, pt_Pe_skillsAt))]) (sw := sw_Gr_noteSkills) (pg := pg_Gr_noteSkills) (th := th_Gr_noteSkills) (ini := false) (by decide +kernel) zz_static (fun h => nomatch h) (by decide) (by decide) ok_Gr_noteSkills (zz_cons (zz_ev_V (m_Pe_skillsAt l) yw_Pe_skillsAt yv_Pe_skillsAt lk_Gr_48 ⟨rfl, rfl, by decide, by decide⟩ (ci := 3) rfl recv_Pe_skillsAt) zz_nil) (fun pc E h => (nomatch h)) (zz_VC1 60 2 [true, true, true] rfl ?_)
  rintro As ws k x ⟨⟨⟨tb, tl⟩, pa, ⟨rk, mr, fr, bf, un⟩, ⟨kd, sz, mb, co⟩, ⟨wh, hd, gs⟩, bk, sp, fl, wr⟩, R, L, h, hg, rfl, rfl, hk⟩
  dsimp only at hk hg
  obtain ⟨rfl, hg1, hg2⟩ := id hg
  refine ⟨Nat.le_of_ble_eq_true rfl, fun n ls st ws nc ns => ∃ (j : Nat) (h2 : qA), j ≤ L.length ∧ n = L.length - j ∧ (∀ (i p : Nat), i < j → L[i]? = some p → h2 i = ph un p h 10) ∧ ls = [some (.ref 15), some (.int h), some (.int (nI j))] ∧ st = [] ∧ ws = gC ((tb, tl), pa, (rk, mr, fr, bf, un), (kd, sz, mb, co), (wh, h2, (nI L.length)), bk, sp, fl, wr) ++ R ∧ nc = 0 ∧ ns = 0, ?_, ?_⟩
  · rintro n ls st ws nc ns ⟨j, h2, hj, rfl, hh, rfl, rfl, rfl, rfl, rfl⟩
    have hL := hg.2.1
    refine And.intro (fun (c1 : nI L.length ≤ nI j) => ?_) (fun (c1 : ¬ nI L.length ≤ nI j) => ?_)
    · have : j = L.length := by
        have := (nI_leI (by omega) (by omega)).mp c1
        omega
      subst this
      exact zz_ev0 (hk h2 (fun i p hi => hh i p (List.getElem?_eq_some_iff.mp hi).1 hi))
    · have hj2 : j < L.length := Nat.lt_of_not_le (fun z : L.length ≤ j => c1 (nI_le z (by omega)))
      have e2 : (nI j).toNatClampNeg = j := nI_clamp (by omega)
      have i1 := zn_in (show j < 50 by omega) (show 50 < 2 ^ 31 by decide)
      obtain ⟨p, hp⟩ := zt_at hj2
      obtain ⟨hw, hp50⟩ := hg.2.2 j p hp
      have ew : wh (nI j).toNatClampNeg = nI p := by rw [e2]; exact hw
      refine And.intro i1 ((And.intro (And.intro rfl (And.intro rfl (And.intro rfl (And.intro (by decide) (by decide))))) ?_))
      refine Exists.intro ((tb, tl), pa, (rk, mr, fr, bf, un), (kd, sz, mb, co), (wh, h2, (nI L.length)), bk, sp, fl, wr) (Exists.intro R (Exists.intro p (Exists.intro h (And.intro hp50 (And.intro (by rw [← ew]; rfl) (And.intro rfl (?_)))))))
      refine And.intro i1 ?_
      refine Exists.intro (L.length - (j + 1)) (And.intro (by show L.length - (j + 1) < L.length - j; omega) ⟨j + 1, upd h2 (nI j).toNatClampNeg (ph un p h 10), hj2, rfl, ?_, by rw [← nI_1]; rfl, rfl, rfl, rfl, rfl⟩)
      intro i q hi hq
      rw [e2]
      by_cases z : i = j
      · rw [z, pk_us]
        rw [z] at hq
        cases hp.symm.trans hq
        rfl
      · rw [pk_un z]; exact hh i q (by omega) hq
  · exact Exists.intro L.length (And.intro trivial ⟨0, hd, Nat.zero_le _, rfl, fun i p hi => absurd hi (Nat.not_lt_zero i), rfl, rfl, rfl, rfl, rfl⟩)
theorem recv_Gr_noteSkills : ∀ As ws k x, pt_Gr_noteSkills As ws k x → ∃ q As' fs, As = .ref q :: As' ∧ ws[q]? = some (.inr (5, fs)) := by
  rintro As ws k x ⟨s, R, L, h, hg, rfl, rfl, hk⟩
  exact ⟨_, _, _, rfl, rfl⟩
def pt_Gr_countWithSomeSkill : zz_PT := fun As ws k _ => ∃ (s : qC) (R : List va_E) (L : List Nat) (f : Nat → Int32), gk s.2.2.2.2.1.1 s.2.2.2.2.1.2.2 L ∧ (∀ (j p : Nat), L[j]? = some p → s.2.2.2.2.1.2.1 j = f p) ∧ As = [.ref 15] ∧ ws = gC s ++ R ∧ k (some (.int (nI (L.countP (fun p => !decide (f p = 0)))))) ws
set_option maxHeartbeats 4000000 in
set_option maxRecDepth 100000 in
theorem m_Gr_countWithSomeSkill (l : Launch) : zz_M zz_CL l y_Gr_countWithSomeSkill (Cond.code y_Gr_countWithSomeSkill c_Gr_countWithSomeSkill 3 (some .int) :: zz_big) (zz_rm 1 20 1 6) (1, false, 0, 0, pt_Gr_countWithSomeSkill) := by
  refine zz_M_of (HOST := "CrewRules") (L := []) (sw := sw_Gr_countWithSomeSkill) (pg := pg_Gr_countWithSomeSkill) (th := th_Gr_countWithSomeSkill) (ini := false) (by decide +kernel) zz_static (fun h => nomatch h) (by decide) (by decide) ok_Gr_countWithSomeSkill zz_nil (fun pc E h => (nomatch h)) (zz_VC1 60 4 [true, true, true] rfl ?_)
  rintro As ws k x ⟨⟨⟨tb, tl⟩, pa, ⟨rk, mr, fr, bf, un⟩, ⟨kd, sz, mb, co⟩, ⟨wh, hd, gs⟩, bk, sp, fl, wr⟩, R, L, f, hg, hf, rfl, rfl, hk⟩
  dsimp only at hk hg hf
  obtain ⟨rfl, hg1, hg2⟩ := id hg
  refine ⟨Nat.le_of_ble_eq_true rfl, fun n ls st ws nc ns => ∃ (j m : Nat), j ≤ L.length ∧ n = L.length - j ∧ (L.take j).countP (fun p => !decide (f p = 0)) = m ∧ ls = [some (.ref 15), some (.int (nI m)), some (.int (nI j))] ∧ st = [] ∧ ws = gC ((tb, tl), pa, (rk, mr, fr, bf, un), (kd, sz, mb, co), (wh, hd, (nI L.length)), bk, sp, fl, wr) ++ R ∧ nc = 0 ∧ ns = 0, ?_, ?_⟩
  · rintro n ls st ws nc ns ⟨j, m, hj, rfl, hm, rfl, rfl, rfl, rfl, rfl⟩
    have hL := hg.2.1
    refine And.intro (fun (c1 : nI L.length ≤ nI j) => ?_) (fun (c1 : ¬ nI L.length ≤ nI j) => ?_)
    · have : j = L.length := by
        have := (nI_leI (by omega) (by omega)).mp c1
        omega
      subst this
      rw [List.take_length] at hm
      subst hm
      exact zz_e0 hk
    · have hj2 : j < L.length := Nat.lt_of_not_le (fun z : L.length ≤ j => c1 (nI_le z (by omega)))
      have e2 : (nI j).toNatClampNeg = j := nI_clamp (by omega)
      have i1 := zn_in (show j < 50 by omega) (show 50 < 2 ^ 31 by decide)
      obtain ⟨p, hp⟩ := zt_at hj2
      obtain ⟨hw, hp50⟩ := hg.2.2 j p hp
      have ez := zt hp
      have ew : wh (nI j).toNatClampNeg = nI p := by rw [e2]; exact hw
      have ep : (nI p).toNatClampNeg = p := nI_clamp (by omega)
      have eh : hd (nI j).toNatClampNeg = f p := by rw [e2]; exact hf j p hp
      refine And.intro i1 ?_
      refine And.intro (fun (c2 : hd (nI j).toNatClampNeg = 0) => ?_) (fun (c2 : ¬ hd (nI j).toNatClampNeg = 0) => ?_)
      · rw [eh] at c2
        refine Exists.intro (L.length - (j + 1)) (And.intro (by show L.length - (j + 1) < L.length - j; omega) ⟨j + 1, m, hj2, rfl, ?_, by rw [← nI_1 j]; rfl, rfl, rfl, rfl, rfl⟩)
        rw [ez, List.countP_append, hm, List.countP_singleton, c2]
        rfl
      · rw [eh] at c2
        refine Exists.intro (L.length - (j + 1)) (And.intro (by show L.length - (j + 1) < L.length - j; omega) ⟨j + 1, m + 1, hj2, rfl, ?_, by rw [← nI_1 j, ← nI_1 m]; rfl, rfl, rfl, rfl, rfl⟩)
        rw [ez, List.countP_append, hm, List.countP_singleton, decide_eq_false c2]
        rfl
  · exact Exists.intro L.length (And.intro trivial ⟨0, 0, Nat.zero_le _, rfl, rfl, rfl, rfl, rfl, rfl, rfl⟩)
theorem recv_Gr_countWithSomeSkill : ∀ As ws k x, pt_Gr_countWithSomeSkill As ws k x → ∃ q As' fs, As = .ref q :: As' ∧ ws[q]? = some (.inr (5, fs)) := by
  rintro As ws k x ⟨s, R, L, f, hg, hf, rfl, rfl, hk⟩
  exact ⟨_, _, _, rfl, rfl⟩
/-- counts for a need: one of the skills acc, the rank r, no learner -/
def gq (f rk mr : qA) (acc r : Int32) (p : Nat) : Bool := !decide (f p &&& acc = 0) && (!decide (rk p < r) && !pl mr p)
def pt_Gr_countSkilled : zz_PT := fun As ws k _ => ∃ (s : qC) (R : List va_E) (L : List Nat) (f : Nat → Int32) (acc r : Int32), gk s.2.2.2.2.1.1 s.2.2.2.2.1.2.2 L ∧ (∀ (j p : Nat), L[j]? = some p → s.2.2.2.2.1.2.1 j = f p) ∧ As = [.ref 15, .int acc, .int r] ∧ ws = gC s ++ R ∧ k (some (.int (nI (L.countP (gq f s.2.2.1.1 s.2.2.1.2.1 acc r))))) ws
set_option maxHeartbeats 4000000 in
set_option maxRecDepth 100000 in
theorem m_Gr_countSkilled (l : Launch) : zz_M zz_CL l y_Gr_countSkilled (Cond.code y_Gr_countSkilled c_Gr_countSkilled 6 (some .int) :: zz_big) (zz_rm 2 41 1 6) (3, false, 0, 0, pt_Gr_countSkilled) := by
  refine zz_M_of (HOST := "CrewRules") (L := [(0, 40, (2, false, 0, 0, pt_Pe_isLearner))]) (sw := sw_Gr_countSkilled) (pg := pg_Gr_countSkilled) (th := th_Gr_countSkilled) (ini := false) (by decide +kernel) zz_static (fun h => nomatch h) (by decide) (by decide) ok_Gr_countSkilled (zz_cons (zz_ev_V (m_Pe_isLearner l) yw_Pe_isLearner yv_Pe_isLearner lk_Gr_40 ⟨rfl, rfl, by decide, by decide⟩ (ci := 3) rfl recv_Pe_isLearner) zz_nil) (fun pc E h => (nomatch h)) (zz_VC1 80 5 [true, true, true, true, true, false] rfl ?_)
  rintro As ws k x ⟨⟨⟨tb, tl⟩, pa, ⟨rk, mr, fr, bf, un⟩, ⟨kd, sz, mb, co⟩, ⟨wh, hd, gs⟩, bk, sp, fl, wr⟩, R, L, f, acc, r, hg, hf, rfl, rfl, hk⟩
  dsimp only at hk hg hf
  obtain ⟨rfl, hg1, hg2⟩ := id hg
  refine ⟨Nat.le_of_ble_eq_true rfl, fun n ls st ws nc ns => ∃ (j m : Nat), j ≤ L.length ∧ n = L.length - j ∧ (L.take j).countP (gq f rk mr acc r) = m ∧ ls = [some (.ref 15), some (.int acc), some (.int r), some (.int (nI m)), some (.int (nI j)), none] ∧ st = [] ∧ ws = gC ((tb, tl), pa, (rk, mr, fr, bf, un), (kd, sz, mb, co), (wh, hd, (nI L.length)), bk, sp, fl, wr) ++ R ∧ nc = 0 ∧ ns = 0, ?_, ?_⟩
  · rintro n ls st ws nc ns ⟨j, m, hj, rfl, hm, rfl, rfl, rfl, rfl, rfl⟩
    have hL := hg.2.1
    refine And.intro (fun (c1 : nI L.length ≤ nI j) => ?_) (fun (c1 : ¬ nI L.length ≤ nI j) => ?_)
    · have : j = L.length := by
        have := (nI_leI (by omega) (by omega)).mp c1
        omega
      subst this
      rw [List.take_length] at hm
      subst hm
      exact zz_e0 hk
    · have hj2 : j < L.length := Nat.lt_of_not_le (fun z : L.length ≤ j => c1 (nI_le z (by omega)))
      have e2 : (nI j).toNatClampNeg = j := nI_clamp (by omega)
      have i1 := zn_in (show j < 50 by omega) (show 50 < 2 ^ 31 by decide)
      obtain ⟨p, hp⟩ := zt_at hj2
      obtain ⟨hw, hp50⟩ := hg.2.2 j p hp
      have ez := zt hp
      have ew : wh (nI j).toNatClampNeg = nI p := by rw [e2]; exact hw
      have ep : (nI p).toNatClampNeg = p := nI_clamp (by omega)
      have eh : hd (nI j).toNatClampNeg = f p := by rw [e2]; exact hf j p hp
      have no : gq f rk mr acc r p = false → (∃ n', n' < L.length - j ∧ ∃ (j' m' : Nat), j' ≤ L.length ∧ n' = L.length - j' ∧ (L.take j').countP (gq f rk mr acc r) = m' ∧ [some (Value.ref 15), some (Value.int acc), some (Value.int r), some (Value.int (nI m)), some (Value.int (nI j + 1)), none] = [some (Value.ref 15), some (Value.int acc), some (Value.int r), some (Value.int (nI m')), some (Value.int (nI j')), none] ∧ ([] : List Value) = [] ∧ gC ((tb, tl), pa, (rk, mr, fr, bf, un), (kd, sz, mb, co), (wh, hd, (nI L.length)), bk, sp, fl, wr) ++ R = gC ((tb, tl), pa, (rk, mr, fr, bf, un), (kd, sz, mb, co), (wh, hd, (nI L.length)), bk, sp, fl, wr) ++ R ∧ 0 = 0 ∧ 0 = 0) := fun h => ⟨L.length - (j + 1), by omega, j + 1, m, hj2, rfl, by rw [ez, List.countP_append, hm, List.countP_singleton, h]; rfl, by rw [← nI_1 j], rfl, rfl, rfl, rfl⟩
      refine And.intro i1 (And.intro i1 ?_)
      refine And.intro (fun (c2 : hd (nI j).toNatClampNeg &&& acc = 0) => ?_) (fun (c2 : ¬ hd (nI j).toNatClampNeg &&& acc = 0) => And.intro (by rw [ew]; exact zn_in hp50 (by decide)) ?_)
      · rw [eh] at c2
        exact no (by unfold gq; rw [decide_eq_true c2]; rfl)
      · rw [eh] at c2
        refine And.intro (fun (c3 : rk (wh (nI j).toNatClampNeg).toNatClampNeg < r) => ?_) (fun (c3 : ¬ rk (wh (nI j).toNatClampNeg).toNatClampNeg < r) => (And.intro (And.intro rfl (And.intro rfl (And.intro rfl (And.intro (by decide) (by decide))))) ?_))
        · rw [ew, ep] at c3
          exact no (by unfold gq; rw [decide_eq_true c3, Bool.not_true, Bool.false_and, Bool.and_false])
        · rw [ew, ep] at c3
          refine Exists.intro ((tb, tl), pa, (rk, mr, fr, bf, un), (kd, sz, mb, co), (wh, hd, (nI L.length)), bk, sp, fl, wr) (Exists.intro R (Exists.intro p (And.intro hp50 (And.intro (by rw [← ew]; rfl) (And.intro rfl (?_))))))
          refine And.intro (fun c4 => ?_) (fun c4 => ?_)
          · exact no (by unfold gq; rw [zb_n.mp c4, Bool.not_true, Bool.and_false, Bool.and_false])
          · refine Exists.intro (L.length - (j + 1)) (And.intro (by show L.length - (j + 1) < L.length - j; omega) ⟨j + 1, m + 1, hj2, rfl, ?_, by rw [← nI_1 j, ← nI_1 m]; rfl, rfl, rfl, rfl, rfl⟩)
            rw [ez, List.countP_append, hm, List.countP_singleton]
            unfold gq
            rw [decide_eq_false c2, decide_eq_false c3, zb_0.mp c4]
            rfl
  · exact Exists.intro L.length (And.intro trivial ⟨0, 0, Nat.zero_le _, rfl, rfl, rfl, rfl, rfl, rfl, rfl⟩)
theorem recv_Gr_countSkilled : ∀ As ws k x, pt_Gr_countSkilled As ws k x → ∃ q As' fs, As = .ref q :: As' ∧ ws[q]? = some (.inr (5, fs)) := by
  rintro As ws k x ⟨s, R, L, f, acc, r, hg, hf, rfl, rfl, hk⟩
  exact ⟨_, _, _, rfl, rfl⟩
def pt_Gr_someoneRestedLessThan : zz_PT := fun As ws k _ => ∃ (s : qC) (R : List va_E) (L : List Nat) (h : Int32), gk s.2.2.2.2.1.1 s.2.2.2.2.1.2.2 L ∧ As = [.ref 15, .int h] ∧ ws = gC s ++ R ∧ k (some (.int (zb (L.any (fun p => pr s.2.2.1.2.2.1 s.2.2.1.2.2.2.1 p h))))) ws
theorem zt_any {L : List Nat} {P : Nat → Bool} {j : Nat} (h : (L.take j).any P = true) : L.any P = true := by
  obtain ⟨p, h1, h2⟩ := List.any_eq_true.mp h
  exact List.any_eq_true.mpr ⟨p, List.mem_of_mem_take h1, h2⟩
set_option maxHeartbeats 4000000 in
set_option maxRecDepth 100000 in
theorem m_Gr_someoneRestedLessThan (l : Launch) : zz_M zz_CL l y_Gr_someoneRestedLessThan (Cond.code y_Gr_someoneRestedLessThan c_Gr_someoneRestedLessThan 3 (some .boolean) :: zz_big) (zz_rm 2 42 1 6) (2, false, 0, 0, pt_Gr_someoneRestedLessThan) := by
  refine zz_M_of (HOST := "CrewRules") (L := [(0, 55, (3, false, 0, 0, pt_Pe_restedLessThan))]) (sw := sw_Gr_someoneRestedLessThan) (pg := pg_Gr_someoneRestedLessThan) (th := th_Gr_someoneRestedLessThan) (ini := false) (by decide +kernel) zz_static (fun h => nomatch h) (by decide) (by decide) ok_Gr_someoneRestedLessThan (zz_cons (zz_ev_V (m_Pe_restedLessThan l) yw_Pe_restedLessThan yv_Pe_restedLessThan lk_Gr_55 ⟨rfl, rfl, by decide, by decide⟩ (ci := 3) rfl recv_Pe_restedLessThan) zz_nil) (fun pc E h => (nomatch h)) (zz_VC1 60 2 [true, true, true] rfl ?_)
  rintro As ws k x ⟨⟨⟨tb, tl⟩, pa, ⟨rk, mr, fr, bf, un⟩, ⟨kd, sz, mb, co⟩, ⟨wh, hd, gs⟩, bk, sp, fl, wr⟩, R, L, h, hg, rfl, rfl, hk⟩
  dsimp only at hk hg
  obtain ⟨rfl, hg1, hg2⟩ := id hg
  refine ⟨Nat.le_of_ble_eq_true rfl, fun n ls st ws nc ns => ∃ (j : Nat), j ≤ L.length ∧ n = L.length - j ∧ (L.take j).any (fun p => pr fr bf p h) = false ∧ ls = [some (.ref 15), some (.int h), some (.int (nI j))] ∧ st = [] ∧ ws = gC ((tb, tl), pa, (rk, mr, fr, bf, un), (kd, sz, mb, co), (wh, hd, (nI L.length)), bk, sp, fl, wr) ++ R ∧ nc = 0 ∧ ns = 0, ?_, ?_⟩
  · rintro n ls st ws nc ns ⟨j, hj, rfl, hm, rfl, rfl, rfl, rfl, rfl⟩
    have hL := hg.2.1
    refine And.intro (fun (c1 : nI L.length ≤ nI j) => ?_) (fun (c1 : ¬ nI L.length ≤ nI j) => ?_)
    · have : j = L.length := by
        have := (nI_leI (by omega) (by omega)).mp c1
        omega
      subst this
      rw [List.take_length] at hm
      rw [hm] at hk
      exact zz_eb (b := false) hk
    · have hj2 : j < L.length := Nat.lt_of_not_le (fun z : L.length ≤ j => c1 (nI_le z (by omega)))
      have e2 : (nI j).toNatClampNeg = j := nI_clamp (by omega)
      have i1 := zn_in (show j < 50 by omega) (show 50 < 2 ^ 31 by decide)
      obtain ⟨p, hp⟩ := zt_at hj2
      obtain ⟨hw, hp50⟩ := hg.2.2 j p hp
      have ez := zt hp
      have ew : wh (nI j).toNatClampNeg = nI p := by rw [e2]; exact hw
      have ep : (nI p).toNatClampNeg = p := nI_clamp (by omega)
      refine And.intro i1 ((And.intro (And.intro rfl (And.intro rfl (And.intro rfl (And.intro (by decide) (by decide))))) ?_))
      refine Exists.intro ((tb, tl), pa, (rk, mr, fr, bf, un), (kd, sz, mb, co), (wh, hd, (nI L.length)), bk, sp, fl, wr) (Exists.intro R (Exists.intro p (Exists.intro h (And.intro hp50 (And.intro (by rw [← ew]; rfl) (And.intro rfl (?_)))))))
      refine And.intro (fun c2 => ?_) (fun c2 => ?_)
      · refine Exists.intro (L.length - (j + 1)) (And.intro (by show L.length - (j + 1) < L.length - j; omega) ⟨j + 1, hj2, rfl, ?_, by rw [← nI_1 j]; rfl, rfl, rfl, rfl, rfl⟩)
        rw [ez, List.any_append, hm]
        show (false || (pr fr bf p h || false)) = false
        rw [zb_0.mp c2]; rfl
      · have h1 : (L.take (j + 1)).any (fun p => pr fr bf p h) = true := by
          rw [ez, List.any_append, hm]
          show (false || (pr fr bf p h || false)) = true
          rw [zb_n.mp c2]; rfl
        rw [zt_any h1] at hk
        exact zz_eb (b := true) hk
  · exact Exists.intro L.length (And.intro trivial ⟨0, Nat.zero_le _, rfl, rfl, rfl, rfl, rfl, rfl, rfl⟩)
theorem recv_Gr_someoneRestedLessThan : ∀ As ws k x, pt_Gr_someoneRestedLessThan As ws k x → ∃ q As' fs, As = .ref q :: As' ∧ ws[q]? = some (.inr (5, fs)) := by
  rintro As ws k x ⟨s, R, L, h, hg, rfl, rfl, hk⟩
  exact ⟨_, _, _, rfl, rfl⟩
/-- on duty too long at the hour, or not yet -/
def go (fr : qA) (m h : Int32) (p : Nat) : Bool := !pn fr p h || !decide (h - fr p ≤ m)
def pt_Gr_someoneOnDutyBeyond : zz_PT := fun As ws k _ => ∃ (s : qC) (R : List va_E) (L : List Nat) (m h : Int32), gk s.2.2.2.2.1.1 s.2.2.2.2.1.2.2 L ∧ As = [.ref 15, .int m, .int h] ∧ ws = gC s ++ R ∧ k (some (.int (zb (L.any (go s.2.2.1.2.2.1 m h))))) ws
set_option maxHeartbeats 4000000 in
set_option maxRecDepth 100000 in
theorem m_Gr_someoneOnDutyBeyond (l : Launch) : zz_M zz_CL l y_Gr_someoneOnDutyBeyond (Cond.code y_Gr_someoneOnDutyBeyond c_Gr_someoneOnDutyBeyond 5 (some .boolean) :: zz_big) (zz_rm 2 42 1 6) (3, false, 0, 0, pt_Gr_someoneOnDutyBeyond) := by
  refine zz_M_of (HOST := "CrewRules") (L := [(0, 58, (3, false, 0, 0, pt_Pe_hasBegun))]) (sw := sw_Gr_someoneOnDutyBeyond) (pg := pg_Gr_someoneOnDutyBeyond) (th := th_Gr_someoneOnDutyBeyond) (ini := false) (by decide +kernel) zz_static (fun h => nomatch h) (by decide) (by decide) ok_Gr_someoneOnDutyBeyond (zz_cons (zz_ev_V (m_Pe_hasBegun l) yw_Pe_hasBegun yv_Pe_hasBegun lk_Gr_58 ⟨rfl, rfl, by decide, by decide⟩ (ci := 3) rfl recv_Pe_hasBegun) zz_nil) (fun pc E h => (nomatch h)) (zz_VC1 80 2 [true, true, true, true, false] rfl ?_)
  rintro As ws k x ⟨⟨⟨tb, tl⟩, pa, ⟨rk, mr, fr, bf, un⟩, ⟨kd, sz, mb, co⟩, ⟨wh, hd, gs⟩, bk, sp, fl, wr⟩, R, L, m, h, hg, rfl, rfl, hk⟩
  dsimp only at hk hg
  obtain ⟨rfl, hg1, hg2⟩ := id hg
  refine ⟨Nat.le_of_ble_eq_true rfl, fun n ls st ws nc ns => ∃ (j : Nat), j ≤ L.length ∧ n = L.length - j ∧ (L.take j).any (go fr m h) = false ∧ ls = [some (.ref 15), some (.int m), some (.int h), some (.int (nI j)), none] ∧ st = [] ∧ ws = gC ((tb, tl), pa, (rk, mr, fr, bf, un), (kd, sz, mb, co), (wh, hd, (nI L.length)), bk, sp, fl, wr) ++ R ∧ nc = 0 ∧ ns = 0, ?_, ?_⟩
  · rintro n ls st ws nc ns ⟨j, hj, rfl, hm, rfl, rfl, rfl, rfl, rfl⟩
    have hL := hg.2.1
    refine And.intro (fun (c1 : nI L.length ≤ nI j) => ?_) (fun (c1 : ¬ nI L.length ≤ nI j) => ?_)
    · have : j = L.length := by
        have := (nI_leI (by omega) (by omega)).mp c1
        omega
      subst this
      rw [List.take_length] at hm
      rw [hm] at hk
      exact zz_eb (b := false) hk
    · have hj2 : j < L.length := Nat.lt_of_not_le (fun z : L.length ≤ j => c1 (nI_le z (by omega)))
      have e2 : (nI j).toNatClampNeg = j := nI_clamp (by omega)
      have i1 := zn_in (show j < 50 by omega) (show 50 < 2 ^ 31 by decide)
      obtain ⟨p, hp⟩ := zt_at hj2
      obtain ⟨hw, hp50⟩ := hg.2.2 j p hp
      have ez := zt hp
      have ew : wh (nI j).toNatClampNeg = nI p := by rw [e2]; exact hw
      have ep : (nI p).toNatClampNeg = p := nI_clamp (by omega)
      have yes : go fr m h p = true → L.any (go fr m h) = true := fun z => zt_any (j := j + 1) (by
        rw [ez, List.any_append, hm]
        show (false || (go fr m h p || false)) = true
        rw [z]; rfl)
      refine And.intro i1 ((And.intro (And.intro rfl (And.intro rfl (And.intro rfl (And.intro (by decide) (by decide))))) ?_))
      refine Exists.intro ((tb, tl), pa, (rk, mr, fr, bf, un), (kd, sz, mb, co), (wh, hd, (nI L.length)), bk, sp, fl, wr) (Exists.intro R (Exists.intro p (Exists.intro h (And.intro hp50 (And.intro (by rw [← ew]; rfl) (And.intro rfl (?_)))))))
      refine And.intro (fun c2 => ?_) (fun c2 => And.intro (by rw [ew]; exact zn_in hp50 (by decide)) ?_)
      · rw [yes (by unfold go; rw [zb_0.mp c2]; rfl)] at hk
        exact zz_eb (b := true) hk
      · refine And.intro (fun (c3 : h - fr (wh (nI j).toNatClampNeg).toNatClampNeg ≤ m) => ?_) (fun (c3 : ¬ h - fr (wh (nI j).toNatClampNeg).toNatClampNeg ≤ m) => ?_)
        · rw [ew, ep] at c3
          refine Exists.intro (L.length - (j + 1)) (And.intro (by show L.length - (j + 1) < L.length - j; omega) ⟨j + 1, hj2, rfl, ?_, by rw [← nI_1 j]; rfl, rfl, rfl, rfl, rfl⟩)
          rw [ez, List.any_append, hm]
          show (false || (go fr m h p || false)) = false
          unfold go
          rw [zb_n.mp c2, decide_eq_true c3]; rfl
        · rw [ew, ep] at c3
          rw [yes (by unfold go; rw [decide_eq_false c3, Bool.not_false, Bool.or_true])] at hk
          exact zz_eb (b := true) hk
  · exact Exists.intro L.length (And.intro trivial ⟨0, Nat.zero_le _, rfl, rfl, rfl, rfl, rfl, rfl, rfl⟩)
theorem recv_Gr_someoneOnDutyBeyond : ∀ As ws k x, pt_Gr_someoneOnDutyBeyond As ws k x → ∃ q As' fs, As = .ref q :: As' ∧ ws[q]? = some (.inr (5, fs)) := by
  rintro As ws k x ⟨s, R, L, m, h, hg, rfl, rfl, hk⟩
  exact ⟨_, _, _, rfl, rfl⟩
/-- the better of two: the one with the higher rank, the first of equals; learners not -/
def gb (rk mr : qA) (b : Option Nat) (p : Nat) : Option Nat := bif pl mr p then b else match b with
  | none => some p
  | some q => bif decide (rk p ≤ rk q) then some q else some p
def gr (b : Option Nat) : Int32 := match b with
  | none => -1
  | some p => nI p
def pt_Gr_highestInRank : zz_PT := fun As ws k _ => ∃ (s : qC) (R : List va_E) (L : List Nat), gk s.2.2.2.2.1.1 s.2.2.2.2.1.2.2 L ∧ As = [.ref 15] ∧ ws = gC s ++ R ∧ k (some (.int (gr (L.foldl (gb s.2.2.1.1 s.2.2.1.2.1) none)))) ws
theorem nI_m1 {p : Nat} (h : p < 50) : ¬ nI p = -1 := fun q => by
  have := congrArg Int32.toInt q
  rw [nI_toInt (by omega)] at this
  have e : (-1 : Int32).toInt = -1 := by decide
  omega
set_option maxHeartbeats 4000000 in
set_option maxRecDepth 100000 in
theorem m_Gr_highestInRank (l : Launch) : zz_M zz_CL l y_Gr_highestInRank (Cond.code y_Gr_highestInRank c_Gr_highestInRank 4 (some .int) :: zz_big) (zz_rm 2 41 1 6) (1, false, 0, 0, pt_Gr_highestInRank) := by
  refine zz_M_of (HOST := "CrewRules") (L := [(0, 40, (2, false, 0, 0, pt_Pe_isLearner))]) (sw := sw_Gr_highestInRank) (pg := pg_Gr_highestInRank) (th := th_Gr_highestInRank) (ini := false) (by decide +kernel) zz_static (fun h => nomatch h) (by decide) (by decide) ok_Gr_highestInRank (zz_cons (zz_ev_V (m_Pe_isLearner l) yw_Pe_isLearner yv_Pe_isLearner lk_Gr_40 ⟨rfl, rfl, by decide, by decide⟩ (ci := 3) rfl recv_Pe_isLearner) zz_nil) (fun pc E h => (nomatch h)) (zz_VC1 80 4 [true, true, true, false] rfl ?_)
  rintro As ws k x ⟨⟨⟨tb, tl⟩, pa, ⟨rk, mr, fr, bf, un⟩, ⟨kd, sz, mb, co⟩, ⟨wh, hd, gs⟩, bk, sp, fl, wr⟩, R, L, hg, rfl, rfl, hk⟩
  dsimp only at hk hg
  obtain ⟨rfl, hg1, hg2⟩ := id hg
  refine ⟨Nat.le_of_ble_eq_true rfl, fun n ls st ws nc ns => ∃ (j : Nat) (b : Option Nat), j ≤ L.length ∧ n = L.length - j ∧ (L.take j).foldl (gb rk mr) none = b ∧ (∀ q, b = some q → q < 50) ∧ ls = [some (.ref 15), some (.int (gr b)), some (.int (nI j)), none] ∧ st = [] ∧ ws = gC ((tb, tl), pa, (rk, mr, fr, bf, un), (kd, sz, mb, co), (wh, hd, (nI L.length)), bk, sp, fl, wr) ++ R ∧ nc = 0 ∧ ns = 0, ?_, ?_⟩
  · rintro n ls st ws nc ns ⟨j, b, hj, rfl, hm, hb50, rfl, rfl, rfl, rfl, rfl⟩
    have hL := hg.2.1
    refine And.intro (fun (c1 : nI L.length ≤ nI j) => ?_) (fun (c1 : ¬ nI L.length ≤ nI j) => ?_)
    · have : j = L.length := by
        have := (nI_leI (by omega) (by omega)).mp c1
        omega
      subst this
      rw [List.take_length] at hm
      subst hm
      exact zz_e0 hk
    · have hj2 : j < L.length := Nat.lt_of_not_le (fun z : L.length ≤ j => c1 (nI_le z (by omega)))
      have e2 : (nI j).toNatClampNeg = j := nI_clamp (by omega)
      have i1 := zn_in (show j < 50 by omega) (show 50 < 2 ^ 31 by decide)
      obtain ⟨p, hp⟩ := zt_at hj2
      obtain ⟨hw, hp50⟩ := hg.2.2 j p hp
      have ez := zt hp
      have ew : wh (nI j).toNatClampNeg = nI p := by rw [e2]; exact hw
      have ep : (nI p).toNatClampNeg = p := nI_clamp (by omega)
      have step : (L.take (j + 1)).foldl (gb rk mr) none = gb rk mr b p := by
        rw [ez, List.foldl_append, hm]; rfl
      have go1 : ∀ b', gb rk mr b p = b' → (∀ q, b' = some q → q < 50) → (∃ n', n' < L.length - j ∧ ∃ (j' : Nat) (b2 : Option Nat), j' ≤ L.length ∧ n' = L.length - j' ∧ (L.take j').foldl (gb rk mr) none = b2 ∧ (∀ q, b2 = some q → q < 50) ∧ [some (Value.ref 15), some (Value.int (gr b')), some (Value.int (nI j + 1)), none] = [some (Value.ref 15), some (Value.int (gr b2)), some (Value.int (nI j')), none] ∧ ([] : List Value) = [] ∧ gC ((tb, tl), pa, (rk, mr, fr, bf, un), (kd, sz, mb, co), (wh, hd, (nI L.length)), bk, sp, fl, wr) ++ R = gC ((tb, tl), pa, (rk, mr, fr, bf, un), (kd, sz, mb, co), (wh, hd, (nI L.length)), bk, sp, fl, wr) ++ R ∧ 0 = 0 ∧ 0 = 0) := fun b' h1 h2 => ⟨L.length - (j + 1), by omega, j + 1, b', hj2, rfl, step.trans h1, h2, by rw [← nI_1 j], rfl, rfl, rfl, rfl⟩
      refine And.intro i1 ((And.intro (And.intro rfl (And.intro rfl (And.intro rfl (And.intro (by decide) (by decide))))) ?_))
      refine Exists.intro ((tb, tl), pa, (rk, mr, fr, bf, un), (kd, sz, mb, co), (wh, hd, (nI L.length)), bk, sp, fl, wr) (Exists.intro R (Exists.intro p (And.intro hp50 (And.intro (by rw [← ew]; rfl) (And.intro rfl (?_))))))
      refine And.intro (fun c2 => ?_) (fun c2 => ?_)
      · exact go1 b (by unfold gb; rw [zb_n.mp c2]; rfl) hb50
      · have hp1 : ∀ q, some p = some q → q < 50 := fun q h => by cases h; exact hp50
        have take : gb rk mr b p = some p → _ := fun h => go1 (some p) h hp1
        cases b with
        | none =>
          refine And.intro (fun _ => ?_) (fun (c3 : ¬ gr none = -1) => absurd rfl c3)
          have := take (by unfold gb; rw [zb_0.mp c2]; rfl)
          rw [show gr (some p) = wh (nI j).toNatClampNeg from ew.symm] at this
          exact this
        | some q =>
          have hq := hb50 q rfl
          have eq : (gr (some q)).toNatClampNeg = q := nI_clamp (by omega)
          refine And.intro (fun (c3 : gr (some q) = -1) => absurd c3 (nI_m1 hq)) (fun _ => And.intro (by rw [ew]; exact zn_in hp50 (by decide)) (And.intro (zn_in hq (by decide)) ?_))
          refine And.intro (fun (c4 : rk (wh (nI j).toNatClampNeg).toNatClampNeg ≤ rk (gr (some q)).toNatClampNeg) => ?_) (fun (c4 : ¬ rk (wh (nI j).toNatClampNeg).toNatClampNeg ≤ rk (gr (some q)).toNatClampNeg) => ?_)
          · rw [ew, ep, eq] at c4
            exact go1 (some q) (by unfold gb; rw [zb_0.mp c2]; show (bif decide (rk p ≤ rk q) then _ else _) = _; rw [decide_eq_true c4]; rfl) hb50
          · rw [ew, ep, eq] at c4
            have := take (by unfold gb; rw [zb_0.mp c2]; show (bif decide (rk p ≤ rk q) then _ else _) = _; rw [decide_eq_false c4]; rfl)
            rw [show gr (some p) = wh (nI j).toNatClampNeg from ew.symm] at this
            exact this
  · exact Exists.intro L.length (And.intro trivial ⟨0, none, Nat.zero_le _, rfl, rfl, fun q h => (nomatch h), rfl, rfl, rfl, rfl, rfl⟩)
theorem recv_Gr_highestInRank : ∀ As ws k x, pt_Gr_highestInRank As ws k x → ∃ q As' fs, As = .ref q :: As' ∧ ws[q]? = some (.inr (5, fs)) := by
  rintro As ws k x ⟨s, R, L, hg, rfl, rfl, hk⟩
  exact ⟨_, _, _, rfl, rfl⟩
