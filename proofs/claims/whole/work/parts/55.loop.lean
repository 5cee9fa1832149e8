/-! ===== the law's loop ===== -/
theorem o1 (a : Bool) : (bif a then 1 else 0) ≤ 1 := by cases a <;> decide
theorem o2 (a b : Bool) : (bif a then 1 else bif b then 2 else 0) ≤ 2 := by cases a <;> cases b <;> decide
theorem o3 (a b c : Bool) : (bif a then 1 else bif b then 2 else bif c then 3 else 0) ≤ 3 := by cases a <;> cases b <;> cases c <;> decide
theorem zo_c {c : Nat} {a1 a2 a3 a0 : Prop} (h0 : c = 0 → a0) (h1 : c = 1 → a1) (h2 : c = 2 → a2) (h3 : 3 ≤ c → a3) : zo c a1 a2 a3 a0 := by
  unfold zo
  match c, h0, h1, h2, h3 with
  | 0, h0, _, _, _ => exact h0 rfl
  | 1, _, h1, _, _ => exact h1 rfl
  | 2, _, _, h2, _ => exact h2 rfl
  | c + 3, _, _, _, h3 => exact h3 (by omega)
theorem x2 {c : Nat} (h : c = 2) (g : c ≤ 1) : False := by omega
theorem x31 {c : Nat} (h : 3 ≤ c) (g : c ≤ 1) : False := by omega
theorem x32 {c : Nat} (h : 3 ≤ c) (g : c ≤ 2) : False := by omega
theorem le3 {c : Nat} (h : 3 ≤ c) (g : c ≤ 3) : c = 3 := by omega
theorem nI_5 (q : Nat) : nI (q + 5) = nI q + 5 := by
  show _ = nI q + nI 5
  rw [nI_add]
theorem lcq {ov : Nat → Int64} {x y : Int32} (h : x = y) : lg_cmp (oP ov x 0) y.toInt64 = 0 := by
  rw [h]
  unfold oP vp_updL
  rw [if_pos rfl]
  unfold lg_cmp
  rw [if_neg (fun z => by simp at z), if_pos rfl]
theorem oCrew_c {c : Int32} (h : oCrew c = 0) : c.toNatClampNeg < 20 := by
  unfold oCrew at h
  cases c1 : iR 0 19 c with
  | false => rw [c1] at h; cases h
  | true => have := (iR_f (hi := 19) (by decide) c1).2; omega
theorem R_counts {s : qC} {t : qM} (h : SR s t) {c : Int32} (ho : oCrew c = 0) : nI (sG s c).length = nI (kN t.2.2.2.2.2 t.2.2.2.1.2.1 c.toNatClampNeg) := by
  obtain ⟨⟨n, h1, h2, h3⟩, e2, e3, e4, e5, e6, e7, e8, e9⟩ := h
  rw [e3]
  unfold sG
  rw [q_len e6 e9 (oCrew_c ho)]
  rfl
theorem R_leader {s : qC} {t : qM} (h : SR s t) {c : Int32} (ho : oCrew c = 0) : gr ((sG s c).foldl (gb s.2.2.1.1 s.2.2.1.2.1) none) = gr (kB t.2.2.2.1.1 (kF t.2.2.2.2.2 t.2.2.2.1.2.1 c.toNatClampNeg) 50) := by
  obtain ⟨⟨n, h1, h2, h3⟩, e2, e3, e4, e5, e6, e7, e8, e9⟩ := h
  rw [e3]
  unfold sG
  rw [q_lead e6 e9 (oCrew_c ho)]
  rfl
theorem R_having {s : qC} {t : qM} (h : SR s t) {c j r x : Int32} (ho : oHaving c j r x = 0) : aHaving s c j r x = nI (kE t.2.2.2.2.2 t.2.2.2.1 t.2.2.1 (some c.toNatClampNeg) j.toNatClampNeg r x) := by
  obtain ⟨⟨n, h1, h2, h3⟩, e2, e3, e4, e5, e6, e7, e8, e9⟩ := h
  unfold oHaving at ho
  cases c1 : iR 0 19 c with
  | false => rw [c1] at ho; cases ho
  | true =>
    cases c2 : iR 0 9 j with
    | false => rw [c1, c2] at ho; cases ho
    | true =>
      have hc := (iR_f (hi := 19) (by decide) c1).2
      have hj := iR_f (hi := 9) (by decide) c2
      rw [e3]
      unfold aHaving sG
      have hq := q_have (r := r) (h := x) e6 e9 e7 (c := c.toNatClampNeg) (s := j.toNatClampNeg) (by omega) (by omega)
      rw [← hj.1] at hq
      rw [hq]
theorem R_verdict {s : qC} {t : qM} (h : SR s t) {c x : Int32} (ho : oVerdict c x = 0) : aVerdict s c x = aVM t.2.2.2.2.2 t.2.2.2.1 t.2.2.1 c.toNatClampNeg x (t.2.2.2.2.1 c.toNatClampNeg).toNatClampNeg := by
  obtain ⟨⟨n, h1, h2, h3⟩, e2, e3, e4, e5, e6, e7, e8, e9⟩ := h
  unfold oVerdict at ho
  cases c1 : iR 0 19 c with
  | false => rw [c1] at ho; cases ho
  | true =>
    have hc := (iR_f (hi := 19) (by decide) c1).2
    obtain ⟨k, hk1, hk2, hk3⟩ := e5 c.toNatClampNeg (by omega)
    rw [e3, e4]
    unfold aVerdict sG
    rw [hk3, nI_clamp (by omega), q_verd e6 e9 e7 (by omega) hk2]
theorem R_never {s : qC} {t : qM} (h : SR s t) {x i : Int32} : aNever s.2.2.1 s.2.2.2.2.2.1 x i = nV (kI t.2.2.2.1 t.2.2.1 t.2.2.2.2.2 x) 9 1 i := by
  obtain ⟨⟨n, h1, h2, h3⟩, e2, e3, e4, e5, e6, e7, e8, e9⟩ := h
  rw [e3]
  unfold aNever
  exact nV_c (fun k h1 h2 => q_met e6 e9 e7 (by omega))
theorem SR_bad {s : qC} {t : qM} (h : SR s t) {r : Int32 × Nat × qB} {ln aa wr v : Int32} {H : qH} (hl : lowEq t.2.2.1 H) : SR (rBad s r) ((v, 0, ln, aa, wr, r.1), t.2.1, H, t.2.2.2) := by
  obtain ⟨⟨n, h1, h2, h3⟩, e2, e3, e4, e5, e6, e7, e8, e9⟩ := h
  exact ⟨⟨0, rfl, rfl, by decide, fun i hi => absurd hi (by omega)⟩, e2, e3, e4, e5, e6, rel_low e7 hl, rfl, e9⟩
theorem SR_good {s : qC} {t : qM} (h : SR s t) {r : Int32 × Nat × qB} {ln aa wr v : Int32} {H : qH} (hl : rel 0 r.2.2 H) : SR (rGood s r) ((v, 0, ln, aa, wr, -1), t.2.1, H, t.2.2.2) := by
  obtain ⟨⟨n, h1, h2, h3⟩, e2, e3, e4, e5, e6, e7, e8, e9⟩ := h
  exact ⟨⟨0, rfl, rfl, by decide, fun i hi => absurd hi (by omega)⟩, e2, e3, e4, e5, e6, hl, rfl, e9⟩
def iLaw (SL : Nat) : Nat → zz_Q := fun z ls st ws nc ns => ∃ (s : qC) (t : qM) (ov : Nat → Int64) (j q : Nat), SR s t ∧ j ≤ SL ∧ 5 * q ≤ j ∧ z = SL + 1 - j ∧ nc ≤ 80 + q ∧ ns ≤ 4712 + 6 * q ∧ ls = [some (.ref 1000), some (.ref 0), some (.ref 46), some (.ref 70), some (.int (nI j)), none, none] ∧ st = [] ∧ ws = gX s t ov
def llLaw : List (Nat × Nat × zz_Y) := [(1, 72, (4, false, 1, 6, fun As ws k _ => pt_La_sign As ws k)), (1, 81, (2, false, 1, 6, fun As ws k _ => pt_La_read As ws k)), (1, 89, (4, false, 1, 6, fun As ws k _ => pt_La_person As ws k)), (1, 93, (4, false, 1, 6, fun As ws k _ => pt_La_skill As ws k)), (1, 96, (4, false, 1, 6, fun As ws k _ => pt_La_duty As ws k)), (1, 99, (3, false, 1, 6, fun As ws k _ => pt_La_kind As ws k)), (1, 103, (4, false, 1, 6, fun As ws k _ => pt_La_join As ws k)), (1, 107, (4, false, 1, 6, fun As ws k _ => pt_La_leave As ws k)), (1, 110, (4, false, 1, 6, fun As ws k _ => pt_La_verdict As ws k)), (1, 113, (3, false, 1, 6, fun As ws k _ => pt_La_counts As ws k)), (1, 117, (6, false, 1, 6, fun As ws k _ => pt_La_having As ws k)), (1, 121, (3, false, 1, 6, fun As ws k _ => pt_La_leader As ws k)), (1, 124, (4, false, 1, 6, fun As ws k _ => pt_La_never As ws k)), (1, 127, (4, false, 1, 6, fun As ws k _ => pt_La_rule As ws k)), (0, 77, (3, false, 0, 0, pt_Mo_sign)), (0, 84, (1, false, 0, 0, pt_Mo_read)), (0, 88, (1, false, 0, 0, pt_Mo_place)), (0, 92, (4, false, 0, 0, pt_Mo_person)), (0, 95, (4, false, 0, 0, pt_Mo_skill)), (0, 98, (4, false, 0, 0, pt_Mo_duty)), (0, 102, (3, false, 0, 0, pt_Mo_kind)), (0, 106, (3, false, 0, 0, pt_Mo_join)), (0, 109, (3, false, 0, 0, pt_Mo_leave)), (0, 112, (3, false, 0, 0, pt_Mo_verdict)), (0, 116, (2, false, 0, 0, pt_Mo_counts)), (0, 120, (5, false, 0, 0, pt_Mo_having)), (0, 123, (2, false, 0, 0, pt_Mo_leader)), (0, 126, (3, false, 0, 0, pt_Mo_never)), (0, 129, (3, false, 0, 0, pt_Mo_rule)), (0, 78, (1, false, 0, 0, pt_Mo_thrown)), (0, 85, (1, false, 0, 0, pt_Cr_place))]
set_option maxHeartbeats 8000000 in
set_option maxRecDepth 100000 in
theorem law_step {SL : Nat} {xs : Nat → Int32} (hSL : SL ≤ 2560) : ∀ n ls st ws nc ns, iLaw SL n ls st ws nc ns → zz_1s SL xs zz_tF room_1.cells room_1.slots none (some .boolean) (zz_tab llLaw) sw_La_law pg_La_law th_La_law (fun r _ nc ns => r = some (.int 1) ∧ nc ≤ 1112 ∧ ns ≤ 12952) (fun _ _ _ _ _ _ => False) (zz_ws SL xs zz_tF room_1.cells room_1.slots none (some .boolean) (zz_tab llLaw) sw_La_law pg_La_law th_La_law (fun r _ nc ns => r = some (.int 1) ∧ nc ≤ 1112 ∧ ns ≤ 12952) (fun _ _ _ _ _ _ => False) (zz_ct (zz_c1 23 [true, true, true, true, true, false, false] (iLaw SL)) (some n)) 130) 23 ls st ws nc ns := by
  rintro z ls st ws nc ns ⟨s, ⟨⟨th, tp, ln, aa, wr, pl⟩, ta, ⟨⟨td, le, ge, re, lg, ne⟩, ⟨nn, nk, nr, nx⟩, su, ⟨wa, ot, fm, tz⟩⟩, ⟨rk, mr, un, bg, bf⟩, kd, im⟩, ov, j, q, hR, hj, hq, rfl, hnc, hns, rfl, rfl, rfl⟩
  obtain ⟨⟨n, hn1, hn2, hn3⟩, hta, hpp, hkd, hwK, hMm, hrl, hpl, hPe⟩ := id hR
  dsimp only at hn2 hta hpp hkd hMm hrl hpl
  have hwB := wfB_rel hrl
  have hwM := wfM_rel hrl
  have hwK2 : wfK kd := by rw [hkd]; exact hwK
  have hoS : ∀ m : Int32, oSign tp m = oSign s.1.2 m := fun m => by rw [hn2, hn1]
  refine And.intro rfl ?_
  refine And.intro (fun (c1 : nI SL - 5 < nI j) => ?_) (fun (c1 : ¬ nI SL - 5 < nI j) => ?_)
  · exact And.intro (Or.inr rfl) (And.intro rfl (And.intro (by omega) (by omega)))
  have hj5 : j + 5 ≤ SL := by
    have ej := nI_toInt (show j < 2 ^ 31 by omega)
    rcases Nat.lt_or_ge SL 5 with h | h
    · refine absurd ?_ c1
      have h0 : nI SL - 5 < 0 := (show ∀ k, k < 5 → nI k - 5 < 0 by decide) SL h
      rw [zn_lt] at h0 ⊢
      rw [ej]
      have e0 : (0 : Int32).toInt = 0 := by decide
      rw [e0] at h0
      omega
    · have e5 : nI SL - 5 = nI (SL - 5) := by
        show nI SL - nI 5 = _
        rw [pk_sub h]
      rw [e5] at c1
      have := (nI_leI (by omega) (by omega)).mp (zn_ge.mp c1)
      omega
  have i0 : vp_in (nI j) SL := vp_in_nI (by omega) (by omega)
  have ik : ∀ k, k ≤ 4 → vp_in (nI j + nI k) SL := fun k hk => by
    rw [nI_add]; exact vp_in_nI (by omega) (by omega)
  refine And.intro rfl (And.intro i0 ?_)
  refine And.intro (fun _ => ?_) (fun _ => ?_)
  · skip
    refine And.intro rfl (And.intro (ik 1 (by decide)) ?_)
    refine And.intro rfl (And.intro (ik 2 (by decide)) ?_)
    refine And.intro rfl (And.intro (ik 3 (by decide)) ?_)
    refine (And.intro (And.intro rfl (And.intro rfl (And.intro rfl (And.intro (by show nc + (1 + 1) ≤ 1112; omega) (by show ns + (6 + 6) ≤ 12952; omega))))) ?_)
    refine Exists.intro s (Exists.intro ((th, tp, ln, aa, wr, pl), ta, ((td, le, ge, re, lg, ne), (nn, nk, nr, nx), su, (wa, ot, fm, tz)), (rk, mr, un, bg, bf), kd, im) (Exists.intro ov (Exists.intro n (Exists.intro _ (Exists.intro _ (And.intro hn1 (And.intro hn3.1 (And.intro rfl (And.intro rfl (?_))))))))))
    refine zo_c (fun ho => ?_) (fun ho => ?_) (fun ho => ?_) (fun ho => ?_)
    · refine And.intro rfl (And.intro (ik 1 (by decide)) ?_)
      refine And.intro rfl (And.intro (ik 2 (by decide)) ?_)
      refine And.intro rfl (And.intro (ik 3 (by decide)) ?_)
      refine (And.intro (And.intro rfl (And.intro rfl (And.intro rfl (And.intro (by show nc + 1 + (0 + 1) ≤ 1112; omega) (by show ns + 6 + (0 + 6) ≤ 12952; omega))))) ?_)
      refine Exists.intro (fC ((sT _ _ s.1.1 n, nI (n + _)), s.2)) (Exists.intro [oL (oP ov _)] (Exists.intro ((th, tp, ln, aa, wr, pl), ta, ((td, le, ge, re, lg, ne), (nn, nk, nr, nx), su, (wa, ot, fm, tz)), (rk, mr, un, bg, bf), kd, im) (Exists.intro n (Exists.intro _ (Exists.intro _ (And.intro hn2 (And.intro hn3.1 (And.intro rfl (And.intro (gX_W _ _ _) (?_))))))))))
      refine ⟨fun _ => ?_, fun h => absurd (hoS _ |>.trans ho) h⟩
      refine (And.intro (And.intro rfl (And.intro rfl (And.intro rfl (And.intro (by show nc + 1 + 0 + (0 + 1) ≤ 1112; omega) (by show ns + 6 + 0 + (0 + 6) ≤ 12952; omega))))) ?_)
      refine Exists.intro (fC ((sT _ _ s.1.1 n, nI (n + _)), s.2)) (Exists.intro [oL (oP ov _)] (Exists.intro _ (And.intro rfl (And.intro rfl (?_)))))
      refine And.intro (fun _ => ?_) (fun (z : ¬ (0 : Int32) = 0) => absurd rfl z)
      refine And.intro (fun (z : ¬ (0 : Int32) = 0) => absurd rfl z) (fun _ => ?_)
      refine And.intro (zn_in (i := 0) (by decide) (by decide)) ?_
      refine And.intro (fun _ => ?_) (fun z => absurd (lcq (rfl)) z)
      exact Exists.intro (SL + 1 - (j + 5)) (And.intro (by show SL + 1 - (j + 5) < SL + 1 - j; omega) ⟨((sT _ _ s.1.1 n, nI (n + _)), s.2), _, (oP ov _), j + 5, q + 1, SR_sign hR hn1 hn3.1 ho _, by omega, by omega, rfl, (by show nc + 1 + 0 + 0 ≤ 80 + (q + 1); omega), (by show ns + 6 + 0 + 0 ≤ 4712 + 6 * (q + 1); omega), (by rw [nI_5]; rfl), rfl, (gX_W _ _ _).symm⟩)
    · refine And.intro rfl (And.intro (ik 1 (by decide)) ?_)
      refine And.intro rfl (And.intro (ik 2 (by decide)) ?_)
      refine And.intro rfl (And.intro (ik 3 (by decide)) ?_)
      refine (And.intro (And.intro rfl (And.intro rfl (And.intro rfl (And.intro (by show nc + 1 + (0 + 1) ≤ 1112; omega) (by show ns + 6 + (0 + 6) ≤ 12952; omega))))) ?_)
      refine Exists.intro (fC s) (Exists.intro [oL ov] (Exists.intro ((th, tp, ln, aa, wr, pl), ta, ((td, le, ge, re, lg, ne), (nn, nk, nr, nx), su, (wa, ot, fm, tz)), (rk, mr, un, bg, bf), kd, im) (Exists.intro n (Exists.intro _ (Exists.intro _ (And.intro hn2 (And.intro hn3.1 (And.intro rfl (And.intro (gX_W _ _ _) (?_))))))))))
      refine ⟨fun h => absurd (h.symm.trans (hoS _ |>.trans ho)) (by decide), fun _ => ?_⟩
      refine (And.intro (And.intro rfl (And.intro rfl (And.intro rfl (And.intro (by show nc + 1 + 0 + (0 + 1) ≤ 1112; omega) (by show ns + 6 + 0 + (0 + 6) ≤ 12952; omega))))) ?_)
      refine Exists.intro (fC s) (Exists.intro [oL ov] (Exists.intro _ (And.intro rfl (And.intro rfl (?_)))))
      refine And.intro (fun _ => ?_) (fun z => absurd (congrArg nI (hoS _ |>.trans ho)) z)
      refine And.intro (fun _ => ?_) (fun (z : (1 : Int32) = 0) => absurd z (by decide))
      exact Exists.intro (SL + 1 - (j + 5)) (And.intro (by show SL + 1 - (j + 5) < SL + 1 - j; omega) ⟨s, _, ov, j + 5, q + 1, SR_th hR _, by omega, by omega, rfl, (by show nc + 1 + 0 + 0 ≤ 80 + (q + 1); omega), (by show ns + 6 + 0 + 0 ≤ 4712 + 6 * (q + 1); omega), (by rw [nI_5]; rfl), rfl, (gX_W _ _ _).symm⟩)
    · refine And.intro rfl (And.intro (ik 1 (by decide)) ?_)
      refine And.intro rfl (And.intro (ik 2 (by decide)) ?_)
      refine And.intro rfl (And.intro (ik 3 (by decide)) ?_)
      refine (And.intro (And.intro rfl (And.intro rfl (And.intro rfl (And.intro (by show nc + 1 + (0 + 1) ≤ 1112; omega) (by show ns + 6 + (0 + 6) ≤ 12952; omega))))) ?_)
      refine Exists.intro (fC s) (Exists.intro [oL ov] (Exists.intro ((th, tp, ln, aa, wr, pl), ta, ((td, le, ge, re, lg, ne), (nn, nk, nr, nx), su, (wa, ot, fm, tz)), (rk, mr, un, bg, bf), kd, im) (Exists.intro n (Exists.intro _ (Exists.intro _ (And.intro hn2 (And.intro hn3.1 (And.intro rfl (And.intro (gX_W _ _ _) (?_))))))))))
      refine ⟨fun h => absurd (h.symm.trans (hoS _ |>.trans ho)) (by decide), fun _ => ?_⟩
      refine (And.intro (And.intro rfl (And.intro rfl (And.intro rfl (And.intro (by show nc + 1 + 0 + (0 + 1) ≤ 1112; omega) (by show ns + 6 + 0 + (0 + 6) ≤ 12952; omega))))) ?_)
      refine Exists.intro (fC s) (Exists.intro [oL ov] (Exists.intro _ (And.intro rfl (And.intro rfl (?_)))))
      refine And.intro (fun _ => ?_) (fun z => absurd (congrArg nI (hoS _ |>.trans ho)) z)
      refine And.intro (fun _ => ?_) (fun (z : (2 : Int32) = 0) => absurd z (by decide))
      exact Exists.intro (SL + 1 - (j + 5)) (And.intro (by show SL + 1 - (j + 5) < SL + 1 - j; omega) ⟨s, _, ov, j + 5, q + 1, SR_th hR _, by omega, by omega, rfl, (by show nc + 1 + 0 + 0 ≤ 80 + (q + 1); omega), (by show ns + 6 + 0 + 0 ≤ 4712 + 6 * (q + 1); omega), (by rw [nI_5]; rfl), rfl, (gX_W _ _ _).symm⟩)
    · exact (x32 ho (o2 _ _)).elim
  refine And.intro (fun _ => ?_) (fun _ => ?_)
  · skip
    refine (And.intro (And.intro rfl (And.intro rfl (And.intro rfl (And.intro (by show nc + (1 + 1) ≤ 1112; omega) (by show ns + (6 + 6) ≤ 12952; omega))))) ?_)
    refine Exists.intro s (Exists.intro ((th, tp, ln, aa, wr, pl), ta, ((td, le, ge, re, lg, ne), (nn, nk, nr, nx), su, (wa, ot, fm, tz)), (rk, mr, un, bg, bf), kd, im) (Exists.intro ov (Exists.intro n (And.intro hn1 (And.intro hn3 (And.intro rfl (And.intro rfl ((fun le0 r hle her => ?_)))))))))
    have her2 : pText ta n 300 0 (bClear s.2.2.2.2.2.2.1 le0) = r := by rw [hta]; exact her.symm
    refine ⟨fun hr => ?_, fun hr => ?_⟩
    · refine (And.intro (And.intro rfl (And.intro rfl (And.intro rfl (And.intro (by show nc + 1 + (0 + 1) ≤ 1112; omega) (by show ns + 6 + (0 + 6) ≤ 12952; omega))))) ?_)
      refine Exists.intro (fC (rBad s r)) (Exists.intro [oL ov] (Exists.intro ((th, tp, ln, aa, wr, pl), ta, ((td, le, ge, re, lg, ne), (nn, nk, nr, nx), su, (wa, ot, fm, tz)), (rk, mr, un, bg, bf), kd, im) (Exists.intro n (Exists.intro s.2.2.2.2.2.2.1 (Exists.intro le0 (And.intro hn2 (And.intro (by rw [hta]; exact hn3) (And.intro hle (And.intro rfl (And.intro (gX_W _ _ _) (?_)))))))))))
      rintro aa wr ⟨⟨td, le, ge, re, lg, ne⟩, ⟨nn, nk, nr, nx⟩, su, ⟨wa, ot, fm, tz⟩⟩
      rw [her2]
      refine ⟨fun _ hlow => ?_, fun h => absurd h hr⟩
      refine (And.intro (And.intro rfl (And.intro rfl (And.intro rfl (And.intro (by show nc + 1 + 0 + (0 + 1) ≤ 1112; omega) (by show ns + 6 + 0 + (0 + 6) ≤ 12952; omega))))) ?_)
      refine Exists.intro (fC (rBad s r)) (Exists.intro [oL ov] (Exists.intro _ (And.intro rfl (And.intro rfl (?_)))))
      refine And.intro (fun _ => ?_) (fun (z : ¬ (1 : Int32) = 1) => absurd rfl z)
      refine And.intro (fun _ => ?_) (fun (z : (1 : Int32) = 0) => absurd z (by decide))
      exact Exists.intro (SL + 1 - (j + 5)) (And.intro (by show SL + 1 - (j + 5) < SL + 1 - j; omega) ⟨(rBad s r), _, ov, j + 5, q + 1, SR_bad hR hlow, by omega, by omega, rfl, (by show nc + 1 + 0 + 0 ≤ 80 + (q + 1); omega), (by show ns + 6 + 0 + 0 ≤ 4712 + 6 * (q + 1); omega), (by rw [nI_5]; rfl), rfl, (gX_W _ _ _).symm⟩)
    · refine (And.intro (And.intro rfl (And.intro rfl (And.intro rfl (And.intro (by show nc + 1 + (0 + 1) ≤ 1112; omega) (by show ns + 6 + (0 + 6) ≤ 12952; omega))))) ?_)
      refine Exists.intro (fC (rGood s r)) (Exists.intro [oL (oP ov r.2.2.2.1)] (Exists.intro ((th, tp, ln, aa, wr, pl), ta, ((td, le, ge, re, lg, ne), (nn, nk, nr, nx), su, (wa, ot, fm, tz)), (rk, mr, un, bg, bf), kd, im) (Exists.intro n (Exists.intro s.2.2.2.2.2.2.1 (Exists.intro le0 (And.intro hn2 (And.intro (by rw [hta]; exact hn3) (And.intro hle (And.intro rfl (And.intro (gX_W _ _ _) (?_)))))))))))
      rintro aa wr ⟨⟨td, le, ge, re, lg, ne⟩, ⟨nn, nk, nr, nx⟩, su, ⟨wa, ot, fm, tz⟩⟩
      rw [her2]
      refine ⟨fun h => absurd hr h, fun _ hrl => ?_⟩
      refine (And.intro (And.intro rfl (And.intro rfl (And.intro rfl (And.intro (by show nc + 1 + 0 + (0 + 1) ≤ 1112; omega) (by show ns + 6 + 0 + (0 + 6) ≤ 12952; omega))))) ?_)
      refine Exists.intro (fC (rGood s r)) (Exists.intro [oL (oP ov r.2.2.2.1)] (Exists.intro _ (And.intro rfl (And.intro rfl (?_)))))
      refine And.intro (fun _ => ?_) (fun (z : ¬ (0 : Int32) = 0) => absurd rfl z)
      refine And.intro (fun (z : ¬ (0 : Int32) = 0) => absurd rfl z) (fun _ => ?_)
      refine And.intro (zn_in (i := 0) (by decide) (by decide)) ?_
      refine And.intro (fun _ => ?_) (fun z => absurd (lcq rfl) z)
      exact Exists.intro (SL + 1 - (j + 5)) (And.intro (by show SL + 1 - (j + 5) < SL + 1 - j; omega) ⟨(rGood s r), _, (oP ov r.2.2.2.1), j + 5, q + 1, SR_good hR hrl, by omega, by omega, rfl, (by show nc + 1 + 0 + 0 ≤ 80 + (q + 1); omega), (by show ns + 6 + 0 + 0 ≤ 4712 + 6 * (q + 1); omega), (by rw [nI_5]; rfl), rfl, (gX_W _ _ _).symm⟩)
  refine And.intro (fun _ => ?_) (fun _ => ?_)
  · skip
    refine (And.intro (And.intro rfl (And.intro rfl (And.intro rfl (And.intro (by show nc + (0 + 1) ≤ 1112; omega) (by show ns + (0 + 6) ≤ 12952; omega))))) ?_)
    refine Exists.intro s (Exists.intro (gM ((th, tp, ln, aa, wr, pl), ta, ((td, le, ge, re, lg, ne), (nn, nk, nr, nx), su, (wa, ot, fm, tz)), (rk, mr, un, bg, bf), kd, im) ++ [oL ov]) (And.intro rfl (And.intro rfl (?_))))
    refine (And.intro (And.intro rfl (And.intro rfl (And.intro rfl (And.intro (by show nc + 0 + (0 + 1) ≤ 1112; omega) (by show ns + 0 + (0 + 6) ≤ 12952; omega))))) ?_)
    refine Exists.intro (fC s) (Exists.intro [oL ov] (Exists.intro ((th, tp, ln, aa, wr, pl), ta, ((td, le, ge, re, lg, ne), (nn, nk, nr, nx), su, (wa, ot, fm, tz)), (rk, mr, un, bg, bf), kd, im) (And.intro rfl (And.intro (gX_W _ _ _) (?_)))))
    refine And.intro (fun _ => ?_) (fun (z : ¬ s.2.2.2.2.2.2.2.2 = pl) => absurd hpl.symm z)
    exact Exists.intro (SL + 1 - (j + 5)) (And.intro (by show SL + 1 - (j + 5) < SL + 1 - j; omega) ⟨s, _, ov, j + 5, q, SR_th hR _, by omega, by omega, rfl, (by show nc + 0 + 0 ≤ 80 + (q); omega), (by show ns + 0 + 0 ≤ 4712 + 6 * (q); omega), (by rw [nI_5]; rfl), rfl, (gX_W _ _ _).symm⟩)
  refine And.intro (fun _ => ?_) (fun _ => ?_)
  · skip
    refine And.intro rfl (And.intro (ik 1 (by decide)) ?_)
    refine And.intro rfl (And.intro (ik 2 (by decide)) ?_)
    refine And.intro rfl (And.intro (ik 3 (by decide)) ?_)
    refine (And.intro (And.intro rfl (And.intro rfl (And.intro rfl (And.intro (by show nc + (1 + 1) ≤ 1112; omega) (by show ns + (6 + 6) ≤ 12952; omega))))) ?_)
    refine Exists.intro s (Exists.intro ((th, tp, ln, aa, wr, pl), ta, ((td, le, ge, re, lg, ne), (nn, nk, nr, nx), su, (wa, ot, fm, tz)), (rk, mr, un, bg, bf), kd, im) (Exists.intro ov (Exists.intro _ (Exists.intro _ (Exists.intro _ (And.intro rfl (And.intro rfl (?_))))))))
    refine zo_c (fun ho => ?_) (fun ho => ?_) (fun ho => ?_) (fun ho => ?_)
    · refine And.intro rfl (And.intro (ik 1 (by decide)) ?_)
      refine And.intro rfl (And.intro (ik 2 (by decide)) ?_)
      refine And.intro rfl (And.intro (ik 3 (by decide)) ?_)
      refine (And.intro (And.intro rfl (And.intro rfl (And.intro rfl (And.intro (by show nc + 1 + (0 + 1) ≤ 1112; omega) (by show ns + 6 + (0 + 6) ≤ 12952; omega))))) ?_)
      refine Exists.intro (fC (uPerson s _ _ _)) (Exists.intro [oL ov] (Exists.intro ((th, tp, ln, aa, wr, pl), ta, ((td, le, ge, re, lg, ne), (nn, nk, nr, nx), su, (wa, ot, fm, tz)), (rk, mr, un, bg, bf), kd, im) (Exists.intro _ (Exists.intro _ (Exists.intro _ (And.intro rfl (And.intro (gX_W _ _ _) (?_))))))))
      refine ⟨fun _ => ?_, fun h => absurd (ho) h⟩
      refine (And.intro (And.intro rfl (And.intro rfl (And.intro rfl (And.intro (by show nc + 1 + 0 + (0 + 1) ≤ 1112; omega) (by show ns + 6 + 0 + (0 + 6) ≤ 12952; omega))))) ?_)
      refine Exists.intro (fC (uPerson s _ _ _)) (Exists.intro [oL ov] (Exists.intro _ (And.intro rfl (And.intro rfl (?_)))))
      refine And.intro (fun _ => ?_) (fun (z : ¬ (0 : Int32) = 0) => absurd rfl z)
      exact Exists.intro (SL + 1 - (j + 5)) (And.intro (by show SL + 1 - (j + 5) < SL + 1 - j; omega) ⟨(uPerson s _ _ _), _, ov, j + 5, q + 1, SR_person hR ho _, by omega, by omega, rfl, (by show nc + 1 + 0 + 0 ≤ 80 + (q + 1); omega), (by show ns + 6 + 0 + 0 ≤ 4712 + 6 * (q + 1); omega), (by rw [nI_5]; rfl), rfl, (gX_W _ _ _).symm⟩)
    · refine And.intro rfl (And.intro (ik 1 (by decide)) ?_)
      refine And.intro rfl (And.intro (ik 2 (by decide)) ?_)
      refine And.intro rfl (And.intro (ik 3 (by decide)) ?_)
      refine (And.intro (And.intro rfl (And.intro rfl (And.intro rfl (And.intro (by show nc + 1 + (0 + 1) ≤ 1112; omega) (by show ns + 6 + (0 + 6) ≤ 12952; omega))))) ?_)
      refine Exists.intro (fC s) (Exists.intro [oL ov] (Exists.intro ((th, tp, ln, aa, wr, pl), ta, ((td, le, ge, re, lg, ne), (nn, nk, nr, nx), su, (wa, ot, fm, tz)), (rk, mr, un, bg, bf), kd, im) (Exists.intro _ (Exists.intro _ (Exists.intro _ (And.intro rfl (And.intro (gX_W _ _ _) (?_))))))))
      refine ⟨fun h => absurd (h.symm.trans (ho)) (by decide), fun _ => ?_⟩
      refine (And.intro (And.intro rfl (And.intro rfl (And.intro rfl (And.intro (by show nc + 1 + 0 + (0 + 1) ≤ 1112; omega) (by show ns + 6 + 0 + (0 + 6) ≤ 12952; omega))))) ?_)
      refine Exists.intro (fC s) (Exists.intro [oL ov] (Exists.intro _ (And.intro rfl (And.intro rfl (?_)))))
      refine And.intro (fun _ => ?_) (fun z => absurd (congrArg nI (ho)) z)
      exact Exists.intro (SL + 1 - (j + 5)) (And.intro (by show SL + 1 - (j + 5) < SL + 1 - j; omega) ⟨s, _, ov, j + 5, q + 1, SR_th hR _, by omega, by omega, rfl, (by show nc + 1 + 0 + 0 ≤ 80 + (q + 1); omega), (by show ns + 6 + 0 + 0 ≤ 4712 + 6 * (q + 1); omega), (by rw [nI_5]; rfl), rfl, (gX_W _ _ _).symm⟩)
    · refine And.intro rfl (And.intro (ik 1 (by decide)) ?_)
      refine And.intro rfl (And.intro (ik 2 (by decide)) ?_)
      refine And.intro rfl (And.intro (ik 3 (by decide)) ?_)
      refine (And.intro (And.intro rfl (And.intro rfl (And.intro rfl (And.intro (by show nc + 1 + (0 + 1) ≤ 1112; omega) (by show ns + 6 + (0 + 6) ≤ 12952; omega))))) ?_)
      refine Exists.intro (fC s) (Exists.intro [oL ov] (Exists.intro ((th, tp, ln, aa, wr, pl), ta, ((td, le, ge, re, lg, ne), (nn, nk, nr, nx), su, (wa, ot, fm, tz)), (rk, mr, un, bg, bf), kd, im) (Exists.intro _ (Exists.intro _ (Exists.intro _ (And.intro rfl (And.intro (gX_W _ _ _) (?_))))))))
      refine ⟨fun h => absurd (h.symm.trans (ho)) (by decide), fun _ => ?_⟩
      refine (And.intro (And.intro rfl (And.intro rfl (And.intro rfl (And.intro (by show nc + 1 + 0 + (0 + 1) ≤ 1112; omega) (by show ns + 6 + 0 + (0 + 6) ≤ 12952; omega))))) ?_)
      refine Exists.intro (fC s) (Exists.intro [oL ov] (Exists.intro _ (And.intro rfl (And.intro rfl (?_)))))
      refine And.intro (fun _ => ?_) (fun z => absurd (congrArg nI (ho)) z)
      exact Exists.intro (SL + 1 - (j + 5)) (And.intro (by show SL + 1 - (j + 5) < SL + 1 - j; omega) ⟨s, _, ov, j + 5, q + 1, SR_th hR _, by omega, by omega, rfl, (by show nc + 1 + 0 + 0 ≤ 80 + (q + 1); omega), (by show ns + 6 + 0 + 0 ≤ 4712 + 6 * (q + 1); omega), (by rw [nI_5]; rfl), rfl, (gX_W _ _ _).symm⟩)
    · exact (x32 ho (o2 _ _)).elim
  refine And.intro (fun _ => ?_) (fun _ => ?_)
  · skip
    refine And.intro rfl (And.intro (ik 1 (by decide)) ?_)
    refine And.intro rfl (And.intro (ik 2 (by decide)) ?_)
    refine And.intro rfl (And.intro (ik 3 (by decide)) ?_)
    refine (And.intro (And.intro rfl (And.intro rfl (And.intro rfl (And.intro (by show nc + (1 + 1) ≤ 1112; omega) (by show ns + (6 + 6) ≤ 12952; omega))))) ?_)
    refine Exists.intro s (Exists.intro ((th, tp, ln, aa, wr, pl), ta, ((td, le, ge, re, lg, ne), (nn, nk, nr, nx), su, (wa, ot, fm, tz)), (rk, mr, un, bg, bf), kd, im) (Exists.intro ov (Exists.intro _ (Exists.intro _ (Exists.intro _ (And.intro rfl (And.intro rfl (?_))))))))
    refine zo_c (fun ho => ?_) (fun ho => ?_) (fun ho => ?_) (fun ho => ?_)
    · refine And.intro rfl (And.intro (ik 1 (by decide)) ?_)
      refine And.intro rfl (And.intro (ik 2 (by decide)) ?_)
      refine And.intro rfl (And.intro (ik 3 (by decide)) ?_)
      refine (And.intro (And.intro rfl (And.intro rfl (And.intro rfl (And.intro (by show nc + 1 + (0 + 1) ≤ 1112; omega) (by show ns + 6 + (0 + 6) ≤ 12952; omega))))) ?_)
      refine Exists.intro (fC (uSkill s _ _ _)) (Exists.intro [oL ov] (Exists.intro ((th, tp, ln, aa, wr, pl), ta, ((td, le, ge, re, lg, ne), (nn, nk, nr, nx), su, (wa, ot, fm, tz)), (rk, mr, un, bg, bf), kd, im) (Exists.intro _ (Exists.intro _ (Exists.intro _ (And.intro rfl (And.intro (gX_W _ _ _) (?_))))))))
      refine ⟨fun _ => ?_, fun h => absurd (ho) h⟩
      refine (And.intro (And.intro rfl (And.intro rfl (And.intro rfl (And.intro (by show nc + 1 + 0 + (0 + 1) ≤ 1112; omega) (by show ns + 6 + 0 + (0 + 6) ≤ 12952; omega))))) ?_)
      refine Exists.intro (fC (uSkill s _ _ _)) (Exists.intro [oL ov] (Exists.intro _ (And.intro rfl (And.intro rfl (?_)))))
      refine And.intro (fun _ => ?_) (fun (z : ¬ (0 : Int32) = 0) => absurd rfl z)
      exact Exists.intro (SL + 1 - (j + 5)) (And.intro (by show SL + 1 - (j + 5) < SL + 1 - j; omega) ⟨(uSkill s _ _ _), _, ov, j + 5, q + 1, SR_skill hR _, by omega, by omega, rfl, (by show nc + 1 + 0 + 0 ≤ 80 + (q + 1); omega), (by show ns + 6 + 0 + 0 ≤ 4712 + 6 * (q + 1); omega), (by rw [nI_5]; rfl), rfl, (gX_W _ _ _).symm⟩)
    · refine And.intro rfl (And.intro (ik 1 (by decide)) ?_)
      refine And.intro rfl (And.intro (ik 2 (by decide)) ?_)
      refine And.intro rfl (And.intro (ik 3 (by decide)) ?_)
      refine (And.intro (And.intro rfl (And.intro rfl (And.intro rfl (And.intro (by show nc + 1 + (0 + 1) ≤ 1112; omega) (by show ns + 6 + (0 + 6) ≤ 12952; omega))))) ?_)
      refine Exists.intro (fC s) (Exists.intro [oL ov] (Exists.intro ((th, tp, ln, aa, wr, pl), ta, ((td, le, ge, re, lg, ne), (nn, nk, nr, nx), su, (wa, ot, fm, tz)), (rk, mr, un, bg, bf), kd, im) (Exists.intro _ (Exists.intro _ (Exists.intro _ (And.intro rfl (And.intro (gX_W _ _ _) (?_))))))))
      refine ⟨fun h => absurd (h.symm.trans (ho)) (by decide), fun _ => ?_⟩
      refine (And.intro (And.intro rfl (And.intro rfl (And.intro rfl (And.intro (by show nc + 1 + 0 + (0 + 1) ≤ 1112; omega) (by show ns + 6 + 0 + (0 + 6) ≤ 12952; omega))))) ?_)
      refine Exists.intro (fC s) (Exists.intro [oL ov] (Exists.intro _ (And.intro rfl (And.intro rfl (?_)))))
      refine And.intro (fun _ => ?_) (fun z => absurd (congrArg nI (ho)) z)
      exact Exists.intro (SL + 1 - (j + 5)) (And.intro (by show SL + 1 - (j + 5) < SL + 1 - j; omega) ⟨s, _, ov, j + 5, q + 1, SR_th hR _, by omega, by omega, rfl, (by show nc + 1 + 0 + 0 ≤ 80 + (q + 1); omega), (by show ns + 6 + 0 + 0 ≤ 4712 + 6 * (q + 1); omega), (by rw [nI_5]; rfl), rfl, (gX_W _ _ _).symm⟩)
    · refine And.intro rfl (And.intro (ik 1 (by decide)) ?_)
      refine And.intro rfl (And.intro (ik 2 (by decide)) ?_)
      refine And.intro rfl (And.intro (ik 3 (by decide)) ?_)
      refine (And.intro (And.intro rfl (And.intro rfl (And.intro rfl (And.intro (by show nc + 1 + (0 + 1) ≤ 1112; omega) (by show ns + 6 + (0 + 6) ≤ 12952; omega))))) ?_)
      refine Exists.intro (fC s) (Exists.intro [oL ov] (Exists.intro ((th, tp, ln, aa, wr, pl), ta, ((td, le, ge, re, lg, ne), (nn, nk, nr, nx), su, (wa, ot, fm, tz)), (rk, mr, un, bg, bf), kd, im) (Exists.intro _ (Exists.intro _ (Exists.intro _ (And.intro rfl (And.intro (gX_W _ _ _) (?_))))))))
      refine ⟨fun h => absurd (h.symm.trans (ho)) (by decide), fun _ => ?_⟩
      refine (And.intro (And.intro rfl (And.intro rfl (And.intro rfl (And.intro (by show nc + 1 + 0 + (0 + 1) ≤ 1112; omega) (by show ns + 6 + 0 + (0 + 6) ≤ 12952; omega))))) ?_)
      refine Exists.intro (fC s) (Exists.intro [oL ov] (Exists.intro _ (And.intro rfl (And.intro rfl (?_)))))
      refine And.intro (fun _ => ?_) (fun z => absurd (congrArg nI (ho)) z)
      exact Exists.intro (SL + 1 - (j + 5)) (And.intro (by show SL + 1 - (j + 5) < SL + 1 - j; omega) ⟨s, _, ov, j + 5, q + 1, SR_th hR _, by omega, by omega, rfl, (by show nc + 1 + 0 + 0 ≤ 80 + (q + 1); omega), (by show ns + 6 + 0 + 0 ≤ 4712 + 6 * (q + 1); omega), (by rw [nI_5]; rfl), rfl, (gX_W _ _ _).symm⟩)
    · exact (x32 ho (o2 _ _)).elim
  refine And.intro (fun _ => ?_) (fun _ => ?_)
  · skip
    refine And.intro rfl (And.intro (ik 1 (by decide)) ?_)
    refine And.intro rfl (And.intro (ik 2 (by decide)) ?_)
    refine And.intro rfl (And.intro (ik 3 (by decide)) ?_)
    refine (And.intro (And.intro rfl (And.intro rfl (And.intro rfl (And.intro (by show nc + (1 + 1) ≤ 1112; omega) (by show ns + (6 + 6) ≤ 12952; omega))))) ?_)
    refine Exists.intro s (Exists.intro ((th, tp, ln, aa, wr, pl), ta, ((td, le, ge, re, lg, ne), (nn, nk, nr, nx), su, (wa, ot, fm, tz)), (rk, mr, un, bg, bf), kd, im) (Exists.intro ov (Exists.intro _ (Exists.intro _ (Exists.intro _ (And.intro rfl (And.intro rfl (?_))))))))
    refine zo_c (fun ho => ?_) (fun ho => ?_) (fun ho => ?_) (fun ho => ?_)
    · refine And.intro rfl (And.intro (ik 1 (by decide)) ?_)
      refine And.intro rfl (And.intro (ik 2 (by decide)) ?_)
      refine And.intro rfl (And.intro (ik 3 (by decide)) ?_)
      refine (And.intro (And.intro rfl (And.intro rfl (And.intro rfl (And.intro (by show nc + 1 + (0 + 1) ≤ 1112; omega) (by show ns + 6 + (0 + 6) ≤ 12952; omega))))) ?_)
      refine Exists.intro (fC (uDuty s _ _ _)) (Exists.intro [oL ov] (Exists.intro ((th, tp, ln, aa, wr, pl), ta, ((td, le, ge, re, lg, ne), (nn, nk, nr, nx), su, (wa, ot, fm, tz)), (rk, mr, un, bg, bf), kd, im) (Exists.intro _ (Exists.intro _ (Exists.intro _ (And.intro rfl (And.intro (gX_W _ _ _) (?_))))))))
      refine ⟨fun _ => ?_, fun h => absurd (ho) h⟩
      refine (And.intro (And.intro rfl (And.intro rfl (And.intro rfl (And.intro (by show nc + 1 + 0 + (0 + 1) ≤ 1112; omega) (by show ns + 6 + 0 + (0 + 6) ≤ 12952; omega))))) ?_)
      refine Exists.intro (fC (uDuty s _ _ _)) (Exists.intro [oL ov] (Exists.intro _ (And.intro rfl (And.intro rfl (?_)))))
      refine And.intro (fun _ => ?_) (fun (z : ¬ (0 : Int32) = 0) => absurd rfl z)
      exact Exists.intro (SL + 1 - (j + 5)) (And.intro (by show SL + 1 - (j + 5) < SL + 1 - j; omega) ⟨(uDuty s _ _ _), _, ov, j + 5, q + 1, SR_duty hR ho _, by omega, by omega, rfl, (by show nc + 1 + 0 + 0 ≤ 80 + (q + 1); omega), (by show ns + 6 + 0 + 0 ≤ 4712 + 6 * (q + 1); omega), (by rw [nI_5]; rfl), rfl, (gX_W _ _ _).symm⟩)
    · refine And.intro rfl (And.intro (ik 1 (by decide)) ?_)
      refine And.intro rfl (And.intro (ik 2 (by decide)) ?_)
      refine And.intro rfl (And.intro (ik 3 (by decide)) ?_)
      refine (And.intro (And.intro rfl (And.intro rfl (And.intro rfl (And.intro (by show nc + 1 + (0 + 1) ≤ 1112; omega) (by show ns + 6 + (0 + 6) ≤ 12952; omega))))) ?_)
      refine Exists.intro (fC s) (Exists.intro [oL ov] (Exists.intro ((th, tp, ln, aa, wr, pl), ta, ((td, le, ge, re, lg, ne), (nn, nk, nr, nx), su, (wa, ot, fm, tz)), (rk, mr, un, bg, bf), kd, im) (Exists.intro _ (Exists.intro _ (Exists.intro _ (And.intro rfl (And.intro (gX_W _ _ _) (?_))))))))
      refine ⟨fun h => absurd (h.symm.trans (ho)) (by decide), fun _ => ?_⟩
      refine (And.intro (And.intro rfl (And.intro rfl (And.intro rfl (And.intro (by show nc + 1 + 0 + (0 + 1) ≤ 1112; omega) (by show ns + 6 + 0 + (0 + 6) ≤ 12952; omega))))) ?_)
      refine Exists.intro (fC s) (Exists.intro [oL ov] (Exists.intro _ (And.intro rfl (And.intro rfl (?_)))))
      refine And.intro (fun _ => ?_) (fun z => absurd (congrArg nI (ho)) z)
      exact Exists.intro (SL + 1 - (j + 5)) (And.intro (by show SL + 1 - (j + 5) < SL + 1 - j; omega) ⟨s, _, ov, j + 5, q + 1, SR_th hR _, by omega, by omega, rfl, (by show nc + 1 + 0 + 0 ≤ 80 + (q + 1); omega), (by show ns + 6 + 0 + 0 ≤ 4712 + 6 * (q + 1); omega), (by rw [nI_5]; rfl), rfl, (gX_W _ _ _).symm⟩)
    · refine And.intro rfl (And.intro (ik 1 (by decide)) ?_)
      refine And.intro rfl (And.intro (ik 2 (by decide)) ?_)
      refine And.intro rfl (And.intro (ik 3 (by decide)) ?_)
      refine (And.intro (And.intro rfl (And.intro rfl (And.intro rfl (And.intro (by show nc + 1 + (0 + 1) ≤ 1112; omega) (by show ns + 6 + (0 + 6) ≤ 12952; omega))))) ?_)
      refine Exists.intro (fC s) (Exists.intro [oL ov] (Exists.intro ((th, tp, ln, aa, wr, pl), ta, ((td, le, ge, re, lg, ne), (nn, nk, nr, nx), su, (wa, ot, fm, tz)), (rk, mr, un, bg, bf), kd, im) (Exists.intro _ (Exists.intro _ (Exists.intro _ (And.intro rfl (And.intro (gX_W _ _ _) (?_))))))))
      refine ⟨fun h => absurd (h.symm.trans (ho)) (by decide), fun _ => ?_⟩
      refine (And.intro (And.intro rfl (And.intro rfl (And.intro rfl (And.intro (by show nc + 1 + 0 + (0 + 1) ≤ 1112; omega) (by show ns + 6 + 0 + (0 + 6) ≤ 12952; omega))))) ?_)
      refine Exists.intro (fC s) (Exists.intro [oL ov] (Exists.intro _ (And.intro rfl (And.intro rfl (?_)))))
      refine And.intro (fun _ => ?_) (fun z => absurd (congrArg nI (ho)) z)
      exact Exists.intro (SL + 1 - (j + 5)) (And.intro (by show SL + 1 - (j + 5) < SL + 1 - j; omega) ⟨s, _, ov, j + 5, q + 1, SR_th hR _, by omega, by omega, rfl, (by show nc + 1 + 0 + 0 ≤ 80 + (q + 1); omega), (by show ns + 6 + 0 + 0 ≤ 4712 + 6 * (q + 1); omega), (by rw [nI_5]; rfl), rfl, (gX_W _ _ _).symm⟩)
    · exact (x32 ho (o2 _ _)).elim
  refine And.intro (fun _ => ?_) (fun _ => ?_)
  · skip
    refine And.intro rfl (And.intro (ik 1 (by decide)) ?_)
    refine And.intro rfl (And.intro (ik 2 (by decide)) ?_)
    refine (And.intro (And.intro rfl (And.intro rfl (And.intro rfl (And.intro (by show nc + (1 + 1) ≤ 1112; omega) (by show ns + (6 + 6) ≤ 12952; omega))))) ?_)
    refine Exists.intro s (Exists.intro ((th, tp, ln, aa, wr, pl), ta, ((td, le, ge, re, lg, ne), (nn, nk, nr, nx), su, (wa, ot, fm, tz)), (rk, mr, un, bg, bf), kd, im) (Exists.intro ov (Exists.intro _ (Exists.intro _ (And.intro rfl (And.intro rfl (?_)))))))
    refine zo_c (fun ho => ?_) (fun ho => ?_) (fun ho => ?_) (fun ho => ?_)
    · refine And.intro rfl (And.intro (ik 1 (by decide)) ?_)
      refine And.intro rfl (And.intro (ik 2 (by decide)) ?_)
      refine (And.intro (And.intro rfl (And.intro rfl (And.intro rfl (And.intro (by show nc + 1 + (0 + 1) ≤ 1112; omega) (by show ns + 6 + (0 + 6) ≤ 12952; omega))))) ?_)
      refine Exists.intro (fC (uKind s _ _)) (Exists.intro [oL ov] (Exists.intro ((th, tp, ln, aa, wr, pl), ta, ((td, le, ge, re, lg, ne), (nn, nk, nr, nx), su, (wa, ot, fm, tz)), (rk, mr, un, bg, bf), kd, im) (Exists.intro _ (Exists.intro _ (And.intro rfl (And.intro (gX_W _ _ _) (?_)))))))
      refine ⟨fun _ => ?_, fun h => absurd (ho) h⟩
      refine (And.intro (And.intro rfl (And.intro rfl (And.intro rfl (And.intro (by show nc + 1 + 0 + (0 + 1) ≤ 1112; omega) (by show ns + 6 + 0 + (0 + 6) ≤ 12952; omega))))) ?_)
      refine Exists.intro (fC (uKind s _ _)) (Exists.intro [oL ov] (Exists.intro _ (And.intro rfl (And.intro rfl (?_)))))
      refine And.intro (fun _ => ?_) (fun (z : ¬ (0 : Int32) = 0) => absurd rfl z)
      exact Exists.intro (SL + 1 - (j + 5)) (And.intro (by show SL + 1 - (j + 5) < SL + 1 - j; omega) ⟨(uKind s _ _), _, ov, j + 5, q + 1, SR_kind hR ho _, by omega, by omega, rfl, (by show nc + 1 + 0 + 0 ≤ 80 + (q + 1); omega), (by show ns + 6 + 0 + 0 ≤ 4712 + 6 * (q + 1); omega), (by rw [nI_5]; rfl), rfl, (gX_W _ _ _).symm⟩)
    · refine And.intro rfl (And.intro (ik 1 (by decide)) ?_)
      refine And.intro rfl (And.intro (ik 2 (by decide)) ?_)
      refine (And.intro (And.intro rfl (And.intro rfl (And.intro rfl (And.intro (by show nc + 1 + (0 + 1) ≤ 1112; omega) (by show ns + 6 + (0 + 6) ≤ 12952; omega))))) ?_)
      refine Exists.intro (fC s) (Exists.intro [oL ov] (Exists.intro ((th, tp, ln, aa, wr, pl), ta, ((td, le, ge, re, lg, ne), (nn, nk, nr, nx), su, (wa, ot, fm, tz)), (rk, mr, un, bg, bf), kd, im) (Exists.intro _ (Exists.intro _ (And.intro rfl (And.intro (gX_W _ _ _) (?_)))))))
      refine ⟨fun h => absurd (h.symm.trans (ho)) (by decide), fun _ => ?_⟩
      refine (And.intro (And.intro rfl (And.intro rfl (And.intro rfl (And.intro (by show nc + 1 + 0 + (0 + 1) ≤ 1112; omega) (by show ns + 6 + 0 + (0 + 6) ≤ 12952; omega))))) ?_)
      refine Exists.intro (fC s) (Exists.intro [oL ov] (Exists.intro _ (And.intro rfl (And.intro rfl (?_)))))
      refine And.intro (fun _ => ?_) (fun z => absurd (congrArg nI (ho)) z)
      exact Exists.intro (SL + 1 - (j + 5)) (And.intro (by show SL + 1 - (j + 5) < SL + 1 - j; omega) ⟨s, _, ov, j + 5, q + 1, SR_th hR _, by omega, by omega, rfl, (by show nc + 1 + 0 + 0 ≤ 80 + (q + 1); omega), (by show ns + 6 + 0 + 0 ≤ 4712 + 6 * (q + 1); omega), (by rw [nI_5]; rfl), rfl, (gX_W _ _ _).symm⟩)
    · refine And.intro rfl (And.intro (ik 1 (by decide)) ?_)
      refine And.intro rfl (And.intro (ik 2 (by decide)) ?_)
      refine (And.intro (And.intro rfl (And.intro rfl (And.intro rfl (And.intro (by show nc + 1 + (0 + 1) ≤ 1112; omega) (by show ns + 6 + (0 + 6) ≤ 12952; omega))))) ?_)
      refine Exists.intro (fC s) (Exists.intro [oL ov] (Exists.intro ((th, tp, ln, aa, wr, pl), ta, ((td, le, ge, re, lg, ne), (nn, nk, nr, nx), su, (wa, ot, fm, tz)), (rk, mr, un, bg, bf), kd, im) (Exists.intro _ (Exists.intro _ (And.intro rfl (And.intro (gX_W _ _ _) (?_)))))))
      refine ⟨fun h => absurd (h.symm.trans (ho)) (by decide), fun _ => ?_⟩
      refine (And.intro (And.intro rfl (And.intro rfl (And.intro rfl (And.intro (by show nc + 1 + 0 + (0 + 1) ≤ 1112; omega) (by show ns + 6 + 0 + (0 + 6) ≤ 12952; omega))))) ?_)
      refine Exists.intro (fC s) (Exists.intro [oL ov] (Exists.intro _ (And.intro rfl (And.intro rfl (?_)))))
      refine And.intro (fun _ => ?_) (fun z => absurd (congrArg nI (ho)) z)
      exact Exists.intro (SL + 1 - (j + 5)) (And.intro (by show SL + 1 - (j + 5) < SL + 1 - j; omega) ⟨s, _, ov, j + 5, q + 1, SR_th hR _, by omega, by omega, rfl, (by show nc + 1 + 0 + 0 ≤ 80 + (q + 1); omega), (by show ns + 6 + 0 + 0 ≤ 4712 + 6 * (q + 1); omega), (by rw [nI_5]; rfl), rfl, (gX_W _ _ _).symm⟩)
    · exact (x32 ho (o2 _ _)).elim
  refine And.intro (fun _ => ?_) (fun _ => ?_)
  · skip
    refine And.intro rfl (And.intro (ik 1 (by decide)) ?_)
    refine And.intro rfl (And.intro (ik 2 (by decide)) ?_)
    refine (And.intro (And.intro rfl (And.intro rfl (And.intro rfl (And.intro (by show nc + (1 + 1) ≤ 1112; omega) (by show ns + (6 + 6) ≤ 12952; omega))))) ?_)
    refine Exists.intro s (Exists.intro ((th, tp, ln, aa, wr, pl), ta, ((td, le, ge, re, lg, ne), (nn, nk, nr, nx), su, (wa, ot, fm, tz)), (rk, mr, un, bg, bf), kd, im) (Exists.intro ov (Exists.intro _ (Exists.intro _ (And.intro rfl (And.intro rfl (?_)))))))
    refine zo_c (fun ho => ?_) (fun ho => ?_) (fun ho => ?_) (fun ho => ?_)
    · refine And.intro rfl (And.intro (ik 1 (by decide)) ?_)
      refine And.intro rfl (And.intro (ik 2 (by decide)) ?_)
      refine (And.intro (And.intro rfl (And.intro rfl (And.intro rfl (And.intro (by show nc + 1 + (0 + 1) ≤ 1112; omega) (by show ns + 6 + (0 + 6) ≤ 12952; omega))))) ?_)
      refine Exists.intro (fC (uW s (cAdd _ _ s.2.2.2.1))) (Exists.intro [oL (oP ov _)] (Exists.intro ((th, tp, ln, aa, wr, pl), ta, ((td, le, ge, re, lg, ne), (nn, nk, nr, nx), su, (wa, ot, fm, tz)), (rk, mr, un, bg, bf), kd, im) (Exists.intro _ (Exists.intro _ (And.intro rfl (And.intro (gX_W _ _ _) (?_)))))))
      refine ⟨fun _ => ?_, fun h => absurd ((q_oJoin hMm).trans ho) h⟩
      refine (And.intro (And.intro rfl (And.intro rfl (And.intro rfl (And.intro (by show nc + 1 + 0 + (0 + 1) ≤ 1112; omega) (by show ns + 6 + 0 + (0 + 6) ≤ 12952; omega))))) ?_)
      refine Exists.intro (fC (uW s (cAdd _ _ s.2.2.2.1))) (Exists.intro [oL (oP ov _)] (Exists.intro _ (And.intro rfl (And.intro rfl (?_)))))
      refine And.intro (fun _ => ?_) (fun (z : ¬ (0 : Int32) = 0) => absurd rfl z)
      refine And.intro (fun (z : ¬ (0 : Int32) = 0) => absurd rfl z) (fun _ => ?_)
      refine And.intro (zn_in (i := 0) (by decide) (by decide)) ?_
      refine And.intro (fun _ => ?_) (fun z => absurd (lcq ((SR_join hR ((q_oJoin hMm).trans ho) 0).2)) z)
      exact Exists.intro (SL + 1 - (j + 5)) (And.intro (by show SL + 1 - (j + 5) < SL + 1 - j; omega) ⟨(uW s (cAdd _ _ s.2.2.2.1)), _, (oP ov _), j + 5, q + 1, (SR_join hR ((q_oJoin hMm).trans ho) _).1, by omega, by omega, rfl, (by show nc + 1 + 0 + 0 ≤ 80 + (q + 1); omega), (by show ns + 6 + 0 + 0 ≤ 4712 + 6 * (q + 1); omega), (by rw [nI_5]; rfl), rfl, (gX_W _ _ _).symm⟩)
    · refine And.intro rfl (And.intro (ik 1 (by decide)) ?_)
      refine And.intro rfl (And.intro (ik 2 (by decide)) ?_)
      refine (And.intro (And.intro rfl (And.intro rfl (And.intro rfl (And.intro (by show nc + 1 + (0 + 1) ≤ 1112; omega) (by show ns + 6 + (0 + 6) ≤ 12952; omega))))) ?_)
      refine Exists.intro (fC s) (Exists.intro [oL ov] (Exists.intro ((th, tp, ln, aa, wr, pl), ta, ((td, le, ge, re, lg, ne), (nn, nk, nr, nx), su, (wa, ot, fm, tz)), (rk, mr, un, bg, bf), kd, im) (Exists.intro _ (Exists.intro _ (And.intro rfl (And.intro (gX_W _ _ _) (?_)))))))
      refine ⟨fun h => absurd (h.symm.trans ((q_oJoin hMm).trans ho)) (by decide), fun _ => ?_⟩
      refine (And.intro (And.intro rfl (And.intro rfl (And.intro rfl (And.intro (by show nc + 1 + 0 + (0 + 1) ≤ 1112; omega) (by show ns + 6 + 0 + (0 + 6) ≤ 12952; omega))))) ?_)
      refine Exists.intro (fC s) (Exists.intro [oL ov] (Exists.intro _ (And.intro rfl (And.intro rfl (?_)))))
      refine And.intro (fun _ => ?_) (fun z => absurd (congrArg nI ((q_oJoin hMm).trans ho)) z)
      refine And.intro (fun _ => ?_) (fun (z : (1 : Int32) = 0) => absurd z (by decide))
      exact Exists.intro (SL + 1 - (j + 5)) (And.intro (by show SL + 1 - (j + 5) < SL + 1 - j; omega) ⟨s, _, ov, j + 5, q + 1, SR_th hR _, by omega, by omega, rfl, (by show nc + 1 + 0 + 0 ≤ 80 + (q + 1); omega), (by show ns + 6 + 0 + 0 ≤ 4712 + 6 * (q + 1); omega), (by rw [nI_5]; rfl), rfl, (gX_W _ _ _).symm⟩)
    · refine And.intro rfl (And.intro (ik 1 (by decide)) ?_)
      refine And.intro rfl (And.intro (ik 2 (by decide)) ?_)
      refine (And.intro (And.intro rfl (And.intro rfl (And.intro rfl (And.intro (by show nc + 1 + (0 + 1) ≤ 1112; omega) (by show ns + 6 + (0 + 6) ≤ 12952; omega))))) ?_)
      refine Exists.intro (fC s) (Exists.intro [oL ov] (Exists.intro ((th, tp, ln, aa, wr, pl), ta, ((td, le, ge, re, lg, ne), (nn, nk, nr, nx), su, (wa, ot, fm, tz)), (rk, mr, un, bg, bf), kd, im) (Exists.intro _ (Exists.intro _ (And.intro rfl (And.intro (gX_W _ _ _) (?_)))))))
      refine ⟨fun h => absurd (h.symm.trans ((q_oJoin hMm).trans ho)) (by decide), fun _ => ?_⟩
      refine (And.intro (And.intro rfl (And.intro rfl (And.intro rfl (And.intro (by show nc + 1 + 0 + (0 + 1) ≤ 1112; omega) (by show ns + 6 + 0 + (0 + 6) ≤ 12952; omega))))) ?_)
      refine Exists.intro (fC s) (Exists.intro [oL ov] (Exists.intro _ (And.intro rfl (And.intro rfl (?_)))))
      refine And.intro (fun _ => ?_) (fun z => absurd (congrArg nI ((q_oJoin hMm).trans ho)) z)
      refine And.intro (fun _ => ?_) (fun (z : (2 : Int32) = 0) => absurd z (by decide))
      exact Exists.intro (SL + 1 - (j + 5)) (And.intro (by show SL + 1 - (j + 5) < SL + 1 - j; omega) ⟨s, _, ov, j + 5, q + 1, SR_th hR _, by omega, by omega, rfl, (by show nc + 1 + 0 + 0 ≤ 80 + (q + 1); omega), (by show ns + 6 + 0 + 0 ≤ 4712 + 6 * (q + 1); omega), (by rw [nI_5]; rfl), rfl, (gX_W _ _ _).symm⟩)
    · have ho := le3 ho (o3 _ _ _)
      refine And.intro rfl (And.intro (ik 1 (by decide)) ?_)
      refine And.intro rfl (And.intro (ik 2 (by decide)) ?_)
      refine (And.intro (And.intro rfl (And.intro rfl (And.intro rfl (And.intro (by show nc + 1 + (0 + 1) ≤ 1112; omega) (by show ns + 6 + (0 + 6) ≤ 12952; omega))))) ?_)
      refine Exists.intro (fC s) (Exists.intro [oL ov] (Exists.intro ((th, tp, ln, aa, wr, pl), ta, ((td, le, ge, re, lg, ne), (nn, nk, nr, nx), su, (wa, ot, fm, tz)), (rk, mr, un, bg, bf), kd, im) (Exists.intro _ (Exists.intro _ (And.intro rfl (And.intro (gX_W _ _ _) (?_)))))))
      refine ⟨fun h => absurd (h.symm.trans ((q_oJoin hMm).trans ho)) (by decide), fun _ => ?_⟩
      refine (And.intro (And.intro rfl (And.intro rfl (And.intro rfl (And.intro (by show nc + 1 + 0 + (0 + 1) ≤ 1112; omega) (by show ns + 6 + 0 + (0 + 6) ≤ 12952; omega))))) ?_)
      refine Exists.intro (fC s) (Exists.intro [oL ov] (Exists.intro _ (And.intro rfl (And.intro rfl (?_)))))
      refine And.intro (fun _ => ?_) (fun z => absurd (congrArg nI ((q_oJoin hMm).trans ho)) z)
      refine And.intro (fun _ => ?_) (fun (z : (3 : Int32) = 0) => absurd z (by decide))
      exact Exists.intro (SL + 1 - (j + 5)) (And.intro (by show SL + 1 - (j + 5) < SL + 1 - j; omega) ⟨s, _, ov, j + 5, q + 1, SR_th hR _, by omega, by omega, rfl, (by show nc + 1 + 0 + 0 ≤ 80 + (q + 1); omega), (by show ns + 6 + 0 + 0 ≤ 4712 + 6 * (q + 1); omega), (by rw [nI_5]; rfl), rfl, (gX_W _ _ _).symm⟩)
  refine And.intro (fun _ => ?_) (fun _ => ?_)
  · skip
    refine And.intro rfl (And.intro (ik 1 (by decide)) ?_)
    refine And.intro rfl (And.intro (ik 2 (by decide)) ?_)
    refine (And.intro (And.intro rfl (And.intro rfl (And.intro rfl (And.intro (by show nc + (1 + 1) ≤ 1112; omega) (by show ns + (6 + 6) ≤ 12952; omega))))) ?_)
    refine Exists.intro s (Exists.intro ((th, tp, ln, aa, wr, pl), ta, ((td, le, ge, re, lg, ne), (nn, nk, nr, nx), su, (wa, ot, fm, tz)), (rk, mr, un, bg, bf), kd, im) (Exists.intro ov (Exists.intro _ (Exists.intro _ (And.intro rfl (And.intro rfl (?_)))))))
    refine zo_c (fun ho => ?_) (fun ho => ?_) (fun ho => ?_) (fun ho => ?_)
    · refine And.intro rfl (And.intro (ik 1 (by decide)) ?_)
      refine And.intro rfl (And.intro (ik 2 (by decide)) ?_)
      refine (And.intro (And.intro rfl (And.intro rfl (And.intro rfl (And.intro (by show nc + 1 + (0 + 1) ≤ 1112; omega) (by show ns + 6 + (0 + 6) ≤ 12952; omega))))) ?_)
      refine Exists.intro (fC (uW s (cRem _ _ s.2.2.2.1))) (Exists.intro [oL (oP ov _)] (Exists.intro ((th, tp, ln, aa, wr, pl), ta, ((td, le, ge, re, lg, ne), (nn, nk, nr, nx), su, (wa, ot, fm, tz)), (rk, mr, un, bg, bf), kd, im) (Exists.intro _ (Exists.intro _ (And.intro rfl (And.intro (gX_W _ _ _) (?_)))))))
      refine ⟨fun _ => ?_, fun h => absurd ((q_oLeave hMm).trans ho) h⟩
      refine (And.intro (And.intro rfl (And.intro rfl (And.intro rfl (And.intro (by show nc + 1 + 0 + (0 + 1) ≤ 1112; omega) (by show ns + 6 + 0 + (0 + 6) ≤ 12952; omega))))) ?_)
      refine Exists.intro (fC (uW s (cRem _ _ s.2.2.2.1))) (Exists.intro [oL (oP ov _)] (Exists.intro _ (And.intro rfl (And.intro rfl (?_)))))
      refine And.intro (fun _ => ?_) (fun (z : ¬ (0 : Int32) = 0) => absurd rfl z)
      refine And.intro (fun (z : ¬ (0 : Int32) = 0) => absurd rfl z) (fun _ => ?_)
      refine And.intro (zn_in (i := 0) (by decide) (by decide)) ?_
      refine And.intro (fun _ => ?_) (fun z => absurd (lcq ((SR_leave hR ((q_oLeave hMm).trans ho) 0).2)) z)
      exact Exists.intro (SL + 1 - (j + 5)) (And.intro (by show SL + 1 - (j + 5) < SL + 1 - j; omega) ⟨(uW s (cRem _ _ s.2.2.2.1)), _, (oP ov _), j + 5, q + 1, (SR_leave hR ((q_oLeave hMm).trans ho) _).1, by omega, by omega, rfl, (by show nc + 1 + 0 + 0 ≤ 80 + (q + 1); omega), (by show ns + 6 + 0 + 0 ≤ 4712 + 6 * (q + 1); omega), (by rw [nI_5]; rfl), rfl, (gX_W _ _ _).symm⟩)
    · refine And.intro rfl (And.intro (ik 1 (by decide)) ?_)
      refine And.intro rfl (And.intro (ik 2 (by decide)) ?_)
      refine (And.intro (And.intro rfl (And.intro rfl (And.intro rfl (And.intro (by show nc + 1 + (0 + 1) ≤ 1112; omega) (by show ns + 6 + (0 + 6) ≤ 12952; omega))))) ?_)
      refine Exists.intro (fC s) (Exists.intro [oL ov] (Exists.intro ((th, tp, ln, aa, wr, pl), ta, ((td, le, ge, re, lg, ne), (nn, nk, nr, nx), su, (wa, ot, fm, tz)), (rk, mr, un, bg, bf), kd, im) (Exists.intro _ (Exists.intro _ (And.intro rfl (And.intro (gX_W _ _ _) (?_)))))))
      refine ⟨fun h => absurd (h.symm.trans ((q_oLeave hMm).trans ho)) (by decide), fun _ => ?_⟩
      refine (And.intro (And.intro rfl (And.intro rfl (And.intro rfl (And.intro (by show nc + 1 + 0 + (0 + 1) ≤ 1112; omega) (by show ns + 6 + 0 + (0 + 6) ≤ 12952; omega))))) ?_)
      refine Exists.intro (fC s) (Exists.intro [oL ov] (Exists.intro _ (And.intro rfl (And.intro rfl (?_)))))
      refine And.intro (fun _ => ?_) (fun z => absurd (congrArg nI ((q_oLeave hMm).trans ho)) z)
      refine And.intro (fun _ => ?_) (fun (z : (1 : Int32) = 0) => absurd z (by decide))
      exact Exists.intro (SL + 1 - (j + 5)) (And.intro (by show SL + 1 - (j + 5) < SL + 1 - j; omega) ⟨s, _, ov, j + 5, q + 1, SR_th hR _, by omega, by omega, rfl, (by show nc + 1 + 0 + 0 ≤ 80 + (q + 1); omega), (by show ns + 6 + 0 + 0 ≤ 4712 + 6 * (q + 1); omega), (by rw [nI_5]; rfl), rfl, (gX_W _ _ _).symm⟩)
    · refine And.intro rfl (And.intro (ik 1 (by decide)) ?_)
      refine And.intro rfl (And.intro (ik 2 (by decide)) ?_)
      refine (And.intro (And.intro rfl (And.intro rfl (And.intro rfl (And.intro (by show nc + 1 + (0 + 1) ≤ 1112; omega) (by show ns + 6 + (0 + 6) ≤ 12952; omega))))) ?_)
      refine Exists.intro (fC s) (Exists.intro [oL ov] (Exists.intro ((th, tp, ln, aa, wr, pl), ta, ((td, le, ge, re, lg, ne), (nn, nk, nr, nx), su, (wa, ot, fm, tz)), (rk, mr, un, bg, bf), kd, im) (Exists.intro _ (Exists.intro _ (And.intro rfl (And.intro (gX_W _ _ _) (?_)))))))
      refine ⟨fun h => absurd (h.symm.trans ((q_oLeave hMm).trans ho)) (by decide), fun _ => ?_⟩
      refine (And.intro (And.intro rfl (And.intro rfl (And.intro rfl (And.intro (by show nc + 1 + 0 + (0 + 1) ≤ 1112; omega) (by show ns + 6 + 0 + (0 + 6) ≤ 12952; omega))))) ?_)
      refine Exists.intro (fC s) (Exists.intro [oL ov] (Exists.intro _ (And.intro rfl (And.intro rfl (?_)))))
      refine And.intro (fun _ => ?_) (fun z => absurd (congrArg nI ((q_oLeave hMm).trans ho)) z)
      refine And.intro (fun _ => ?_) (fun (z : (2 : Int32) = 0) => absurd z (by decide))
      exact Exists.intro (SL + 1 - (j + 5)) (And.intro (by show SL + 1 - (j + 5) < SL + 1 - j; omega) ⟨s, _, ov, j + 5, q + 1, SR_th hR _, by omega, by omega, rfl, (by show nc + 1 + 0 + 0 ≤ 80 + (q + 1); omega), (by show ns + 6 + 0 + 0 ≤ 4712 + 6 * (q + 1); omega), (by rw [nI_5]; rfl), rfl, (gX_W _ _ _).symm⟩)
    · exact (x32 ho (o2 _ _)).elim
  refine And.intro (fun _ => ?_) (fun _ => ?_)
  · skip
    refine And.intro rfl (And.intro (ik 1 (by decide)) ?_)
    refine And.intro rfl (And.intro (ik 2 (by decide)) ?_)
    refine (And.intro (And.intro rfl (And.intro rfl (And.intro rfl (And.intro (by show nc + (1 + 1) ≤ 1112; omega) (by show ns + (6 + 6) ≤ 12952; omega))))) ?_)
    refine Exists.intro s (Exists.intro ((th, tp, ln, aa, wr, pl), ta, ((td, le, ge, re, lg, ne), (nn, nk, nr, nx), su, (wa, ot, fm, tz)), (rk, mr, un, bg, bf), kd, im) (Exists.intro ov (Exists.intro _ (Exists.intro _ (And.intro hwB (And.intro hwK (And.intro rfl (And.intro rfl (?_)))))))))
    refine zo_c (fun ho => ?_) (fun ho => ?_) (fun ho => ?_) (fun ho => ?_)
    · intro g
      refine And.intro rfl (And.intro (ik 1 (by decide)) ?_)
      refine And.intro rfl (And.intro (ik 2 (by decide)) ?_)
      refine (And.intro (And.intro rfl (And.intro rfl (And.intro rfl (And.intro (by show nc + 1 + (0 + 1) ≤ 1112; omega) (by show ns + 6 + (0 + 6) ≤ 12952; omega))))) ?_)
      refine Exists.intro (fC (uG s g)) (Exists.intro [oL (oP ov _)] (Exists.intro ((th, tp, ln, aa, wr, pl), ta, ((td, le, ge, re, lg, ne), (nn, nk, nr, nx), su, (wa, ot, fm, tz)), (rk, mr, un, bg, bf), kd, im) (Exists.intro _ (Exists.intro _ (And.intro hwM (And.intro hwK2 (And.intro rfl (And.intro (gX_W _ _ _) (?_)))))))))
      refine ⟨fun _ => ?_, fun h => absurd (ho) h⟩
      refine (And.intro (And.intro rfl (And.intro rfl (And.intro rfl (And.intro (by show nc + 1 + 0 + (0 + 1) ≤ 1112; omega) (by show ns + 6 + 0 + (0 + 6) ≤ 12952; omega))))) ?_)
      refine Exists.intro (fC (uG s g)) (Exists.intro [oL (oP ov _)] (Exists.intro _ (And.intro rfl (And.intro rfl (?_)))))
      refine And.intro (fun _ => ?_) (fun (z : ¬ (0 : Int32) = 0) => absurd rfl z)
      refine And.intro (fun (z : ¬ (0 : Int32) = 0) => absurd rfl z) (fun _ => ?_)
      refine And.intro (zn_in (i := 0) (by decide) (by decide)) ?_
      refine And.intro (fun _ => ?_) (fun z => absurd (lcq (R_verdict hR ho)) z)
      exact Exists.intro (SL + 1 - (j + 5)) (And.intro (by show SL + 1 - (j + 5) < SL + 1 - j; omega) ⟨(uG s g), _, (oP ov _), j + 5, q + 1, SR_th (SR_g hR g) _, by omega, by omega, rfl, (by show nc + 1 + 0 + 0 ≤ 80 + (q + 1); omega), (by show ns + 6 + 0 + 0 ≤ 4712 + 6 * (q + 1); omega), (by rw [nI_5]; rfl), rfl, (gX_W _ _ _).symm⟩)
    · refine And.intro rfl (And.intro (ik 1 (by decide)) ?_)
      refine And.intro rfl (And.intro (ik 2 (by decide)) ?_)
      refine (And.intro (And.intro rfl (And.intro rfl (And.intro rfl (And.intro (by show nc + 1 + (0 + 1) ≤ 1112; omega) (by show ns + 6 + (0 + 6) ≤ 12952; omega))))) ?_)
      refine Exists.intro (fC s) (Exists.intro [oL ov] (Exists.intro ((th, tp, ln, aa, wr, pl), ta, ((td, le, ge, re, lg, ne), (nn, nk, nr, nx), su, (wa, ot, fm, tz)), (rk, mr, un, bg, bf), kd, im) (Exists.intro _ (Exists.intro _ (And.intro hwM (And.intro hwK2 (And.intro rfl (And.intro (gX_W _ _ _) (?_)))))))))
      refine ⟨fun h => absurd (h.symm.trans (ho)) (by decide), fun _ => ?_⟩
      refine (And.intro (And.intro rfl (And.intro rfl (And.intro rfl (And.intro (by show nc + 1 + 0 + (0 + 1) ≤ 1112; omega) (by show ns + 6 + 0 + (0 + 6) ≤ 12952; omega))))) ?_)
      refine Exists.intro (fC s) (Exists.intro [oL ov] (Exists.intro _ (And.intro rfl (And.intro rfl (?_)))))
      refine And.intro (fun _ => ?_) (fun z => absurd (congrArg nI (ho)) z)
      refine And.intro (fun _ => ?_) (fun (z : (1 : Int32) = 0) => absurd z (by decide))
      exact Exists.intro (SL + 1 - (j + 5)) (And.intro (by show SL + 1 - (j + 5) < SL + 1 - j; omega) ⟨s, _, ov, j + 5, q + 1, SR_th hR _, by omega, by omega, rfl, (by show nc + 1 + 0 + 0 ≤ 80 + (q + 1); omega), (by show ns + 6 + 0 + 0 ≤ 4712 + 6 * (q + 1); omega), (by rw [nI_5]; rfl), rfl, (gX_W _ _ _).symm⟩)
    · refine And.intro rfl (And.intro (ik 1 (by decide)) ?_)
      refine And.intro rfl (And.intro (ik 2 (by decide)) ?_)
      refine (And.intro (And.intro rfl (And.intro rfl (And.intro rfl (And.intro (by show nc + 1 + (0 + 1) ≤ 1112; omega) (by show ns + 6 + (0 + 6) ≤ 12952; omega))))) ?_)
      refine Exists.intro (fC s) (Exists.intro [oL ov] (Exists.intro ((th, tp, ln, aa, wr, pl), ta, ((td, le, ge, re, lg, ne), (nn, nk, nr, nx), su, (wa, ot, fm, tz)), (rk, mr, un, bg, bf), kd, im) (Exists.intro _ (Exists.intro _ (And.intro hwM (And.intro hwK2 (And.intro rfl (And.intro (gX_W _ _ _) (?_)))))))))
      refine ⟨fun h => absurd (h.symm.trans (ho)) (by decide), fun _ => ?_⟩
      refine (And.intro (And.intro rfl (And.intro rfl (And.intro rfl (And.intro (by show nc + 1 + 0 + (0 + 1) ≤ 1112; omega) (by show ns + 6 + 0 + (0 + 6) ≤ 12952; omega))))) ?_)
      refine Exists.intro (fC s) (Exists.intro [oL ov] (Exists.intro _ (And.intro rfl (And.intro rfl (?_)))))
      refine And.intro (fun _ => ?_) (fun z => absurd (congrArg nI (ho)) z)
      refine And.intro (fun _ => ?_) (fun (z : (2 : Int32) = 0) => absurd z (by decide))
      exact Exists.intro (SL + 1 - (j + 5)) (And.intro (by show SL + 1 - (j + 5) < SL + 1 - j; omega) ⟨s, _, ov, j + 5, q + 1, SR_th hR _, by omega, by omega, rfl, (by show nc + 1 + 0 + 0 ≤ 80 + (q + 1); omega), (by show ns + 6 + 0 + 0 ≤ 4712 + 6 * (q + 1); omega), (by rw [nI_5]; rfl), rfl, (gX_W _ _ _).symm⟩)
    · exact (x32 ho (o2 _ _)).elim
  refine And.intro (fun _ => ?_) (fun _ => ?_)
  · skip
    refine And.intro rfl (And.intro (ik 1 (by decide)) ?_)
    refine (And.intro (And.intro rfl (And.intro rfl (And.intro rfl (And.intro (by show nc + (1 + 1) ≤ 1112; omega) (by show ns + (6 + 6) ≤ 12952; omega))))) ?_)
    refine Exists.intro s (Exists.intro ((th, tp, ln, aa, wr, pl), ta, ((td, le, ge, re, lg, ne), (nn, nk, nr, nx), su, (wa, ot, fm, tz)), (rk, mr, un, bg, bf), kd, im) (Exists.intro ov (Exists.intro _ (And.intro rfl (And.intro rfl (?_))))))
    refine zo_c (fun ho => ?_) (fun ho => ?_) (fun ho => ?_) (fun ho => ?_)
    · intro g
      refine And.intro rfl (And.intro (ik 1 (by decide)) ?_)
      refine (And.intro (And.intro rfl (And.intro rfl (And.intro rfl (And.intro (by show nc + 1 + (0 + 1) ≤ 1112; omega) (by show ns + 6 + (0 + 6) ≤ 12952; omega))))) ?_)
      refine Exists.intro (fC (uG s g)) (Exists.intro [oL (oP ov _)] (Exists.intro ((th, tp, ln, aa, wr, pl), ta, ((td, le, ge, re, lg, ne), (nn, nk, nr, nx), su, (wa, ot, fm, tz)), (rk, mr, un, bg, bf), kd, im) (Exists.intro _ (And.intro rfl (And.intro (gX_W _ _ _) (?_))))))
      refine ⟨fun _ => ?_, fun h => absurd (ho) h⟩
      refine (And.intro (And.intro rfl (And.intro rfl (And.intro rfl (And.intro (by show nc + 1 + 0 + (0 + 1) ≤ 1112; omega) (by show ns + 6 + 0 + (0 + 6) ≤ 12952; omega))))) ?_)
      refine Exists.intro (fC (uG s g)) (Exists.intro [oL (oP ov _)] (Exists.intro _ (And.intro rfl (And.intro rfl (?_)))))
      refine And.intro (fun _ => ?_) (fun (z : ¬ (0 : Int32) = 0) => absurd rfl z)
      refine And.intro (fun (z : ¬ (0 : Int32) = 0) => absurd rfl z) (fun _ => ?_)
      refine And.intro (zn_in (i := 0) (by decide) (by decide)) ?_
      refine And.intro (fun _ => ?_) (fun z => absurd (lcq (R_counts hR ho)) z)
      exact Exists.intro (SL + 1 - (j + 5)) (And.intro (by show SL + 1 - (j + 5) < SL + 1 - j; omega) ⟨(uG s g), _, (oP ov _), j + 5, q + 1, SR_th (SR_g hR g) _, by omega, by omega, rfl, (by show nc + 1 + 0 + 0 ≤ 80 + (q + 1); omega), (by show ns + 6 + 0 + 0 ≤ 4712 + 6 * (q + 1); omega), (by rw [nI_5]; rfl), rfl, (gX_W _ _ _).symm⟩)
    · refine And.intro rfl (And.intro (ik 1 (by decide)) ?_)
      refine (And.intro (And.intro rfl (And.intro rfl (And.intro rfl (And.intro (by show nc + 1 + (0 + 1) ≤ 1112; omega) (by show ns + 6 + (0 + 6) ≤ 12952; omega))))) ?_)
      refine Exists.intro (fC s) (Exists.intro [oL ov] (Exists.intro ((th, tp, ln, aa, wr, pl), ta, ((td, le, ge, re, lg, ne), (nn, nk, nr, nx), su, (wa, ot, fm, tz)), (rk, mr, un, bg, bf), kd, im) (Exists.intro _ (And.intro rfl (And.intro (gX_W _ _ _) (?_))))))
      refine ⟨fun h => absurd (h.symm.trans (ho)) (by decide), fun _ => ?_⟩
      refine (And.intro (And.intro rfl (And.intro rfl (And.intro rfl (And.intro (by show nc + 1 + 0 + (0 + 1) ≤ 1112; omega) (by show ns + 6 + 0 + (0 + 6) ≤ 12952; omega))))) ?_)
      refine Exists.intro (fC s) (Exists.intro [oL ov] (Exists.intro _ (And.intro rfl (And.intro rfl (?_)))))
      refine And.intro (fun _ => ?_) (fun z => absurd (congrArg nI (ho)) z)
      refine And.intro (fun _ => ?_) (fun (z : (1 : Int32) = 0) => absurd z (by decide))
      exact Exists.intro (SL + 1 - (j + 5)) (And.intro (by show SL + 1 - (j + 5) < SL + 1 - j; omega) ⟨s, _, ov, j + 5, q + 1, SR_th hR _, by omega, by omega, rfl, (by show nc + 1 + 0 + 0 ≤ 80 + (q + 1); omega), (by show ns + 6 + 0 + 0 ≤ 4712 + 6 * (q + 1); omega), (by rw [nI_5]; rfl), rfl, (gX_W _ _ _).symm⟩)
    · exact (x2 ho (o1 _)).elim
    · exact (x31 ho (o1 _)).elim
  refine And.intro (fun _ => ?_) (fun _ => ?_)
  · skip
    refine And.intro rfl (And.intro (ik 1 (by decide)) ?_)
    refine And.intro rfl (And.intro (ik 2 (by decide)) ?_)
    refine And.intro rfl (And.intro (ik 3 (by decide)) ?_)
    refine And.intro rfl (And.intro (ik 4 (by decide)) ?_)
    refine (And.intro (And.intro rfl (And.intro rfl (And.intro rfl (And.intro (by show nc + (1 + 1) ≤ 1112; omega) (by show ns + (6 + 6) ≤ 12952; omega))))) ?_)
    refine Exists.intro s (Exists.intro ((th, tp, ln, aa, wr, pl), ta, ((td, le, ge, re, lg, ne), (nn, nk, nr, nx), su, (wa, ot, fm, tz)), (rk, mr, un, bg, bf), kd, im) (Exists.intro ov (Exists.intro _ (Exists.intro _ (Exists.intro _ (Exists.intro _ (And.intro hwB (And.intro rfl (And.intro rfl (?_))))))))))
    refine zo_c (fun ho => ?_) (fun ho => ?_) (fun ho => ?_) (fun ho => ?_)
    · intro g
      refine And.intro rfl (And.intro (ik 1 (by decide)) ?_)
      refine And.intro rfl (And.intro (ik 2 (by decide)) ?_)
      refine And.intro rfl (And.intro (ik 3 (by decide)) ?_)
      refine And.intro rfl (And.intro (ik 4 (by decide)) ?_)
      refine (And.intro (And.intro rfl (And.intro rfl (And.intro rfl (And.intro (by show nc + 1 + (0 + 1) ≤ 1112; omega) (by show ns + 6 + (0 + 6) ≤ 12952; omega))))) ?_)
      refine Exists.intro (fC (uG s g)) (Exists.intro [oL (oP ov _)] (Exists.intro ((th, tp, ln, aa, wr, pl), ta, ((td, le, ge, re, lg, ne), (nn, nk, nr, nx), su, (wa, ot, fm, tz)), (rk, mr, un, bg, bf), kd, im) (Exists.intro _ (Exists.intro _ (Exists.intro _ (Exists.intro _ (And.intro hwM.1 (And.intro rfl (And.intro (gX_W _ _ _) (?_))))))))))
      refine ⟨fun _ => ?_, fun h => absurd (ho) h⟩
      refine (And.intro (And.intro rfl (And.intro rfl (And.intro rfl (And.intro (by show nc + 1 + 0 + (0 + 1) ≤ 1112; omega) (by show ns + 6 + 0 + (0 + 6) ≤ 12952; omega))))) ?_)
      refine Exists.intro (fC (uG s g)) (Exists.intro [oL (oP ov _)] (Exists.intro _ (And.intro rfl (And.intro rfl (?_)))))
      refine And.intro (fun _ => ?_) (fun (z : ¬ (0 : Int32) = 0) => absurd rfl z)
      refine And.intro (fun (z : ¬ (0 : Int32) = 0) => absurd rfl z) (fun _ => ?_)
      refine And.intro (zn_in (i := 0) (by decide) (by decide)) ?_
      refine And.intro (fun _ => ?_) (fun z => absurd (lcq (R_having hR ho)) z)
      exact Exists.intro (SL + 1 - (j + 5)) (And.intro (by show SL + 1 - (j + 5) < SL + 1 - j; omega) ⟨(uG s g), _, (oP ov _), j + 5, q + 1, SR_th (SR_g hR g) _, by omega, by omega, rfl, (by show nc + 1 + 0 + 0 ≤ 80 + (q + 1); omega), (by show ns + 6 + 0 + 0 ≤ 4712 + 6 * (q + 1); omega), (by rw [nI_5]; rfl), rfl, (gX_W _ _ _).symm⟩)
    · refine And.intro rfl (And.intro (ik 1 (by decide)) ?_)
      refine And.intro rfl (And.intro (ik 2 (by decide)) ?_)
      refine And.intro rfl (And.intro (ik 3 (by decide)) ?_)
      refine And.intro rfl (And.intro (ik 4 (by decide)) ?_)
      refine (And.intro (And.intro rfl (And.intro rfl (And.intro rfl (And.intro (by show nc + 1 + (0 + 1) ≤ 1112; omega) (by show ns + 6 + (0 + 6) ≤ 12952; omega))))) ?_)
      refine Exists.intro (fC s) (Exists.intro [oL ov] (Exists.intro ((th, tp, ln, aa, wr, pl), ta, ((td, le, ge, re, lg, ne), (nn, nk, nr, nx), su, (wa, ot, fm, tz)), (rk, mr, un, bg, bf), kd, im) (Exists.intro _ (Exists.intro _ (Exists.intro _ (Exists.intro _ (And.intro hwM.1 (And.intro rfl (And.intro (gX_W _ _ _) (?_))))))))))
      refine ⟨fun h => absurd (h.symm.trans (ho)) (by decide), fun _ => ?_⟩
      refine (And.intro (And.intro rfl (And.intro rfl (And.intro rfl (And.intro (by show nc + 1 + 0 + (0 + 1) ≤ 1112; omega) (by show ns + 6 + 0 + (0 + 6) ≤ 12952; omega))))) ?_)
      refine Exists.intro (fC s) (Exists.intro [oL ov] (Exists.intro _ (And.intro rfl (And.intro rfl (?_)))))
      refine And.intro (fun _ => ?_) (fun z => absurd (congrArg nI (ho)) z)
      refine And.intro (fun _ => ?_) (fun (z : (1 : Int32) = 0) => absurd z (by decide))
      exact Exists.intro (SL + 1 - (j + 5)) (And.intro (by show SL + 1 - (j + 5) < SL + 1 - j; omega) ⟨s, _, ov, j + 5, q + 1, SR_th hR _, by omega, by omega, rfl, (by show nc + 1 + 0 + 0 ≤ 80 + (q + 1); omega), (by show ns + 6 + 0 + 0 ≤ 4712 + 6 * (q + 1); omega), (by rw [nI_5]; rfl), rfl, (gX_W _ _ _).symm⟩)
    · refine And.intro rfl (And.intro (ik 1 (by decide)) ?_)
      refine And.intro rfl (And.intro (ik 2 (by decide)) ?_)
      refine And.intro rfl (And.intro (ik 3 (by decide)) ?_)
      refine And.intro rfl (And.intro (ik 4 (by decide)) ?_)
      refine (And.intro (And.intro rfl (And.intro rfl (And.intro rfl (And.intro (by show nc + 1 + (0 + 1) ≤ 1112; omega) (by show ns + 6 + (0 + 6) ≤ 12952; omega))))) ?_)
      refine Exists.intro (fC s) (Exists.intro [oL ov] (Exists.intro ((th, tp, ln, aa, wr, pl), ta, ((td, le, ge, re, lg, ne), (nn, nk, nr, nx), su, (wa, ot, fm, tz)), (rk, mr, un, bg, bf), kd, im) (Exists.intro _ (Exists.intro _ (Exists.intro _ (Exists.intro _ (And.intro hwM.1 (And.intro rfl (And.intro (gX_W _ _ _) (?_))))))))))
      refine ⟨fun h => absurd (h.symm.trans (ho)) (by decide), fun _ => ?_⟩
      refine (And.intro (And.intro rfl (And.intro rfl (And.intro rfl (And.intro (by show nc + 1 + 0 + (0 + 1) ≤ 1112; omega) (by show ns + 6 + 0 + (0 + 6) ≤ 12952; omega))))) ?_)
      refine Exists.intro (fC s) (Exists.intro [oL ov] (Exists.intro _ (And.intro rfl (And.intro rfl (?_)))))
      refine And.intro (fun _ => ?_) (fun z => absurd (congrArg nI (ho)) z)
      refine And.intro (fun _ => ?_) (fun (z : (2 : Int32) = 0) => absurd z (by decide))
      exact Exists.intro (SL + 1 - (j + 5)) (And.intro (by show SL + 1 - (j + 5) < SL + 1 - j; omega) ⟨s, _, ov, j + 5, q + 1, SR_th hR _, by omega, by omega, rfl, (by show nc + 1 + 0 + 0 ≤ 80 + (q + 1); omega), (by show ns + 6 + 0 + 0 ≤ 4712 + 6 * (q + 1); omega), (by rw [nI_5]; rfl), rfl, (gX_W _ _ _).symm⟩)
    · exact (x32 ho (o2 _ _)).elim
  refine And.intro (fun _ => ?_) (fun _ => ?_)
  · skip
    refine And.intro rfl (And.intro (ik 1 (by decide)) ?_)
    refine (And.intro (And.intro rfl (And.intro rfl (And.intro rfl (And.intro (by show nc + (1 + 1) ≤ 1112; omega) (by show ns + (6 + 6) ≤ 12952; omega))))) ?_)
    refine Exists.intro s (Exists.intro ((th, tp, ln, aa, wr, pl), ta, ((td, le, ge, re, lg, ne), (nn, nk, nr, nx), su, (wa, ot, fm, tz)), (rk, mr, un, bg, bf), kd, im) (Exists.intro ov (Exists.intro _ (And.intro rfl (And.intro rfl (?_))))))
    refine zo_c (fun ho => ?_) (fun ho => ?_) (fun ho => ?_) (fun ho => ?_)
    · intro g
      refine And.intro rfl (And.intro (ik 1 (by decide)) ?_)
      refine (And.intro (And.intro rfl (And.intro rfl (And.intro rfl (And.intro (by show nc + 1 + (0 + 1) ≤ 1112; omega) (by show ns + 6 + (0 + 6) ≤ 12952; omega))))) ?_)
      refine Exists.intro (fC (uG s g)) (Exists.intro [oL (oP ov _)] (Exists.intro ((th, tp, ln, aa, wr, pl), ta, ((td, le, ge, re, lg, ne), (nn, nk, nr, nx), su, (wa, ot, fm, tz)), (rk, mr, un, bg, bf), kd, im) (Exists.intro _ (And.intro rfl (And.intro (gX_W _ _ _) (?_))))))
      refine ⟨fun _ => ?_, fun h => absurd (ho) h⟩
      refine (And.intro (And.intro rfl (And.intro rfl (And.intro rfl (And.intro (by show nc + 1 + 0 + (0 + 1) ≤ 1112; omega) (by show ns + 6 + 0 + (0 + 6) ≤ 12952; omega))))) ?_)
      refine Exists.intro (fC (uG s g)) (Exists.intro [oL (oP ov _)] (Exists.intro _ (And.intro rfl (And.intro rfl (?_)))))
      refine And.intro (fun _ => ?_) (fun (z : ¬ (0 : Int32) = 0) => absurd rfl z)
      refine And.intro (fun (z : ¬ (0 : Int32) = 0) => absurd rfl z) (fun _ => ?_)
      refine And.intro (zn_in (i := 0) (by decide) (by decide)) ?_
      refine And.intro (fun _ => ?_) (fun z => absurd (lcq (R_leader hR ho)) z)
      exact Exists.intro (SL + 1 - (j + 5)) (And.intro (by show SL + 1 - (j + 5) < SL + 1 - j; omega) ⟨(uG s g), _, (oP ov _), j + 5, q + 1, SR_th (SR_g hR g) _, by omega, by omega, rfl, (by show nc + 1 + 0 + 0 ≤ 80 + (q + 1); omega), (by show ns + 6 + 0 + 0 ≤ 4712 + 6 * (q + 1); omega), (by rw [nI_5]; rfl), rfl, (gX_W _ _ _).symm⟩)
    · refine And.intro rfl (And.intro (ik 1 (by decide)) ?_)
      refine (And.intro (And.intro rfl (And.intro rfl (And.intro rfl (And.intro (by show nc + 1 + (0 + 1) ≤ 1112; omega) (by show ns + 6 + (0 + 6) ≤ 12952; omega))))) ?_)
      refine Exists.intro (fC s) (Exists.intro [oL ov] (Exists.intro ((th, tp, ln, aa, wr, pl), ta, ((td, le, ge, re, lg, ne), (nn, nk, nr, nx), su, (wa, ot, fm, tz)), (rk, mr, un, bg, bf), kd, im) (Exists.intro _ (And.intro rfl (And.intro (gX_W _ _ _) (?_))))))
      refine ⟨fun h => absurd (h.symm.trans (ho)) (by decide), fun _ => ?_⟩
      refine (And.intro (And.intro rfl (And.intro rfl (And.intro rfl (And.intro (by show nc + 1 + 0 + (0 + 1) ≤ 1112; omega) (by show ns + 6 + 0 + (0 + 6) ≤ 12952; omega))))) ?_)
      refine Exists.intro (fC s) (Exists.intro [oL ov] (Exists.intro _ (And.intro rfl (And.intro rfl (?_)))))
      refine And.intro (fun _ => ?_) (fun z => absurd (congrArg nI (ho)) z)
      refine And.intro (fun _ => ?_) (fun (z : (1 : Int32) = 0) => absurd z (by decide))
      exact Exists.intro (SL + 1 - (j + 5)) (And.intro (by show SL + 1 - (j + 5) < SL + 1 - j; omega) ⟨s, _, ov, j + 5, q + 1, SR_th hR _, by omega, by omega, rfl, (by show nc + 1 + 0 + 0 ≤ 80 + (q + 1); omega), (by show ns + 6 + 0 + 0 ≤ 4712 + 6 * (q + 1); omega), (by rw [nI_5]; rfl), rfl, (gX_W _ _ _).symm⟩)
    · exact (x2 ho (o1 _)).elim
    · exact (x31 ho (o1 _)).elim
  refine And.intro (fun _ => ?_) (fun _ => ?_)
  · skip
    refine And.intro rfl (And.intro (ik 1 (by decide)) ?_)
    refine And.intro rfl (And.intro (ik 2 (by decide)) ?_)
    refine (And.intro (And.intro rfl (And.intro rfl (And.intro rfl (And.intro (by show nc + (1 + 1) ≤ 1112; omega) (by show ns + (6 + 6) ≤ 12952; omega))))) ?_)
    refine Exists.intro s (Exists.intro ((th, tp, ln, aa, wr, pl), ta, ((td, le, ge, re, lg, ne), (nn, nk, nr, nx), su, (wa, ot, fm, tz)), (rk, mr, un, bg, bf), kd, im) (Exists.intro ov (Exists.intro _ (Exists.intro _ (And.intro hwB (And.intro rfl (And.intro rfl (?_))))))))
    refine zo_c (fun ho => ?_) (fun ho => ?_) (fun ho => ?_) (fun ho => ?_)
    · intro g
      refine And.intro rfl (And.intro (ik 1 (by decide)) ?_)
      refine And.intro rfl (And.intro (ik 2 (by decide)) ?_)
      refine (And.intro (And.intro rfl (And.intro rfl (And.intro rfl (And.intro (by show nc + 1 + (0 + 1) ≤ 1112; omega) (by show ns + 6 + (0 + 6) ≤ 12952; omega))))) ?_)
      refine Exists.intro (fC (uG s g)) (Exists.intro [oL (oP ov _)] (Exists.intro ((th, tp, ln, aa, wr, pl), ta, ((td, le, ge, re, lg, ne), (nn, nk, nr, nx), su, (wa, ot, fm, tz)), (rk, mr, un, bg, bf), kd, im) (Exists.intro _ (Exists.intro _ (And.intro hwM (And.intro rfl (And.intro (gX_W _ _ _) (?_))))))))
      refine ⟨fun _ => ?_, fun h => absurd (ho) h⟩
      refine (And.intro (And.intro rfl (And.intro rfl (And.intro rfl (And.intro (by show nc + 1 + 0 + (0 + 1) ≤ 1112; omega) (by show ns + 6 + 0 + (0 + 6) ≤ 12952; omega))))) ?_)
      refine Exists.intro (fC (uG s g)) (Exists.intro [oL (oP ov _)] (Exists.intro _ (And.intro rfl (And.intro rfl (?_)))))
      refine And.intro (fun _ => ?_) (fun (z : ¬ (0 : Int32) = 0) => absurd rfl z)
      refine And.intro (fun (z : ¬ (0 : Int32) = 0) => absurd rfl z) (fun _ => ?_)
      refine And.intro (zn_in (i := 0) (by decide) (by decide)) ?_
      refine And.intro (fun _ => ?_) (fun z => absurd (lcq (R_never hR)) z)
      exact Exists.intro (SL + 1 - (j + 5)) (And.intro (by show SL + 1 - (j + 5) < SL + 1 - j; omega) ⟨(uG s g), _, (oP ov _), j + 5, q + 1, SR_th (SR_g hR g) _, by omega, by omega, rfl, (by show nc + 1 + 0 + 0 ≤ 80 + (q + 1); omega), (by show ns + 6 + 0 + 0 ≤ 4712 + 6 * (q + 1); omega), (by rw [nI_5]; rfl), rfl, (gX_W _ _ _).symm⟩)
    · refine And.intro rfl (And.intro (ik 1 (by decide)) ?_)
      refine And.intro rfl (And.intro (ik 2 (by decide)) ?_)
      refine (And.intro (And.intro rfl (And.intro rfl (And.intro rfl (And.intro (by show nc + 1 + (0 + 1) ≤ 1112; omega) (by show ns + 6 + (0 + 6) ≤ 12952; omega))))) ?_)
      refine Exists.intro (fC s) (Exists.intro [oL ov] (Exists.intro ((th, tp, ln, aa, wr, pl), ta, ((td, le, ge, re, lg, ne), (nn, nk, nr, nx), su, (wa, ot, fm, tz)), (rk, mr, un, bg, bf), kd, im) (Exists.intro _ (Exists.intro _ (And.intro hwM (And.intro rfl (And.intro (gX_W _ _ _) (?_))))))))
      refine ⟨fun h => absurd (h.symm.trans (ho)) (by decide), fun _ => ?_⟩
      refine (And.intro (And.intro rfl (And.intro rfl (And.intro rfl (And.intro (by show nc + 1 + 0 + (0 + 1) ≤ 1112; omega) (by show ns + 6 + 0 + (0 + 6) ≤ 12952; omega))))) ?_)
      refine Exists.intro (fC s) (Exists.intro [oL ov] (Exists.intro _ (And.intro rfl (And.intro rfl (?_)))))
      refine And.intro (fun _ => ?_) (fun z => absurd (congrArg nI (ho)) z)
      refine And.intro (fun _ => ?_) (fun (z : (1 : Int32) = 0) => absurd z (by decide))
      exact Exists.intro (SL + 1 - (j + 5)) (And.intro (by show SL + 1 - (j + 5) < SL + 1 - j; omega) ⟨s, _, ov, j + 5, q + 1, SR_th hR _, by omega, by omega, rfl, (by show nc + 1 + 0 + 0 ≤ 80 + (q + 1); omega), (by show ns + 6 + 0 + 0 ≤ 4712 + 6 * (q + 1); omega), (by rw [nI_5]; rfl), rfl, (gX_W _ _ _).symm⟩)
    · exact (x2 ho (o1 _)).elim
    · exact (x31 ho (o1 _)).elim
  refine And.intro (fun _ => ?_) (fun _ => ?_)
  · skip
    refine And.intro rfl (And.intro (ik 1 (by decide)) ?_)
    refine And.intro rfl (And.intro (ik 2 (by decide)) ?_)
    refine (And.intro (And.intro rfl (And.intro rfl (And.intro rfl (And.intro (by show nc + (1 + 1) ≤ 1112; omega) (by show ns + (6 + 6) ≤ 12952; omega))))) ?_)
    refine Exists.intro s (Exists.intro ((th, tp, ln, aa, wr, pl), ta, ((td, le, ge, re, lg, ne), (nn, nk, nr, nx), su, (wa, ot, fm, tz)), (rk, mr, un, bg, bf), kd, im) (Exists.intro ov (Exists.intro _ (Exists.intro _ (And.intro rfl (And.intro rfl (?_)))))))
    refine zo_c (fun ho => ?_) (fun ho => ?_) (fun ho => ?_) (fun ho => ?_)
    · refine And.intro rfl (And.intro (ik 1 (by decide)) ?_)
      refine And.intro rfl (And.intro (ik 2 (by decide)) ?_)
      refine (And.intro (And.intro rfl (And.intro rfl (And.intro rfl (And.intro (by show nc + 1 + (0 + 1) ≤ 1112; omega) (by show ns + 6 + (0 + 6) ≤ 12952; omega))))) ?_)
      refine Exists.intro (fC s) (Exists.intro [oL (oP ov _)] (Exists.intro ((th, tp, ln, aa, wr, pl), ta, ((td, le, ge, re, lg, ne), (nn, nk, nr, nx), su, (wa, ot, fm, tz)), (rk, mr, un, bg, bf), kd, im) (Exists.intro _ (Exists.intro _ (And.intro rfl (And.intro (gX_W _ _ _) (?_)))))))
      refine ⟨fun _ => ?_, fun h => absurd ((q_oRule hrl).trans ho) h⟩
      refine (And.intro (And.intro rfl (And.intro rfl (And.intro rfl (And.intro (by show nc + 1 + 0 + (0 + 1) ≤ 1112; omega) (by show ns + 6 + 0 + (0 + 6) ≤ 12952; omega))))) ?_)
      refine Exists.intro (fC s) (Exists.intro [oL (oP ov _)] (Exists.intro _ (And.intro rfl (And.intro rfl (?_)))))
      refine And.intro (fun _ => ?_) (fun (z : ¬ (0 : Int32) = 0) => absurd rfl z)
      refine And.intro (fun (z : ¬ (0 : Int32) = 0) => absurd rfl z) (fun _ => ?_)
      refine And.intro (zn_in (i := 0) (by decide) (by decide)) ?_
      refine And.intro (fun _ => ?_) (fun z => absurd (lcq ((q_aRule hrl ho).symm)) z)
      exact Exists.intro (SL + 1 - (j + 5)) (And.intro (by show SL + 1 - (j + 5) < SL + 1 - j; omega) ⟨s, _, (oP ov _), j + 5, q + 1, SR_th hR _, by omega, by omega, rfl, (by show nc + 1 + 0 + 0 ≤ 80 + (q + 1); omega), (by show ns + 6 + 0 + 0 ≤ 4712 + 6 * (q + 1); omega), (by rw [nI_5]; rfl), rfl, (gX_W _ _ _).symm⟩)
    · refine And.intro rfl (And.intro (ik 1 (by decide)) ?_)
      refine And.intro rfl (And.intro (ik 2 (by decide)) ?_)
      refine (And.intro (And.intro rfl (And.intro rfl (And.intro rfl (And.intro (by show nc + 1 + (0 + 1) ≤ 1112; omega) (by show ns + 6 + (0 + 6) ≤ 12952; omega))))) ?_)
      refine Exists.intro (fC s) (Exists.intro [oL ov] (Exists.intro ((th, tp, ln, aa, wr, pl), ta, ((td, le, ge, re, lg, ne), (nn, nk, nr, nx), su, (wa, ot, fm, tz)), (rk, mr, un, bg, bf), kd, im) (Exists.intro _ (Exists.intro _ (And.intro rfl (And.intro (gX_W _ _ _) (?_)))))))
      refine ⟨fun h => absurd (h.symm.trans ((q_oRule hrl).trans ho)) (by decide), fun _ => ?_⟩
      refine (And.intro (And.intro rfl (And.intro rfl (And.intro rfl (And.intro (by show nc + 1 + 0 + (0 + 1) ≤ 1112; omega) (by show ns + 6 + 0 + (0 + 6) ≤ 12952; omega))))) ?_)
      refine Exists.intro (fC s) (Exists.intro [oL ov] (Exists.intro _ (And.intro rfl (And.intro rfl (?_)))))
      refine And.intro (fun _ => ?_) (fun z => absurd (congrArg nI ((q_oRule hrl).trans ho)) z)
      refine And.intro (fun _ => ?_) (fun (z : (1 : Int32) = 0) => absurd z (by decide))
      exact Exists.intro (SL + 1 - (j + 5)) (And.intro (by show SL + 1 - (j + 5) < SL + 1 - j; omega) ⟨s, _, ov, j + 5, q + 1, SR_th hR _, by omega, by omega, rfl, (by show nc + 1 + 0 + 0 ≤ 80 + (q + 1); omega), (by show ns + 6 + 0 + 0 ≤ 4712 + 6 * (q + 1); omega), (by rw [nI_5]; rfl), rfl, (gX_W _ _ _).symm⟩)
    · exact (x2 ho (o1 _)).elim
    · exact (x31 ho (o1 _)).elim
  exact Exists.intro (SL + 1 - (j + 5)) (And.intro (by show SL + 1 - (j + 5) < SL + 1 - j; omega) ⟨s, ((th, tp, ln, aa, wr, pl), ta, ((td, le, ge, re, lg, ne), (nn, nk, nr, nx), su, (wa, ot, fm, tz)), (rk, mr, un, bg, bf), kd, im), ov, j + 5, q, hR, by omega, by omega, rfl, hnc, hns, (by rw [nI_5]; rfl), rfl, rfl⟩)
