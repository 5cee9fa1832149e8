/-! ===== the law's wrappers ===== -/
def oL (v : Nat → Int64) : va_E := .inl (2, 1, .inr (.inl v))
/-- class, model, out -/
def gX (s : qC) (t : qM) (ov : Nat → Int64) : List va_E := gC s ++ (gM t ++ [oL ov])
theorem gX_W (s : qC) (t : qM) (ov : Nat → Int64) : gX s t ov = gW (fC s) t [oL ov] := by
  unfold gX gW; rw [fC_p46]
theorem zo_map {c : Nat} {a1 a2 a3 a0 b1 b2 b3 b0 : Prop} (h : zo c a1 a2 a3 a0) (h1 : a1 → b1) (h2 : a2 → b2) (h3 : a3 → b3) (h0 : a0 → b0) : zo c b1 b2 b3 b0 := by
  unfold zo at *
  split <;> simp_all
def oP (v : Nat → Int64) (x : Int32) : Nat → Int64 := vp_updL v 0 x.toInt64
theorem zz_rc {q : zz_Hr → Prop} {a : zz_Hr} {L : List zz_Hr} (h : q a) (t : ∀ x ∈ L, q x) : ∀ x ∈ a :: L, q x := fun x hx => (List.mem_cons.mp hx).elim (fun e => by rw [e]; exact h) (t x)
def pt_La_sign : zz_PW := fun As ws k => ∃ (s : qC) (t : qM) (ov : Nat → Int64) (n : Nat) (w : Int64) (m : Int32), s.1.2 = nI n ∧ n ≤ 300 ∧ As = [.ref 0, .long w, .int m, .ref 70] ∧ ws = gX s t ov ∧ zo (oSign s.1.2 m) (k (some (.int 1)) (gX s t ov)) (k (some (.int 2)) (gX s t ov)) (False) (k (some (.int 0)) (gX ((sT w m.toNatClampNeg s.1.1 n, nI (n + m.toNatClampNeg)), s.2) t (oP ov (nI (n + m.toNatClampNeg)))))
set_option maxHeartbeats 4000000 in
set_option maxRecDepth 100000 in
theorem m_La_sign (l : Launch) (hl : l.stackTraces = false) : zz_MW zz_CL l y_La_sign (Cond.codeWith y_La_sign c_La_sign 6 (some .int) (zz_hh 11 [("java/lang/IndexOutOfBoundsException", 14, 13, 1, 5), ("java/lang/UnsupportedOperationException", 18, 15, 2, 5)]) :: zz_big) (zz_rm 7 106 1 6) 1 6 pt_La_sign := by
  refine zz_MW_of (HOST := "CrewRules") (L := [(0, 7, (3, false, 0, 0, pt_Cr_sign))]) (sw := sw_La_sign) (pg := pg_La_sign) (pc0 := 6) (by decide +kernel) zz_static (by decide) (by decide) ok_La_sign (zz_cons (zz_ev_V (m_Cr_sign l hl) yw_Cr_sign yv_Cr_sign lk_La_7 ⟨rfl, rfl, by decide, by decide⟩ (ci := 0) rfl recv_Cr_sign) zz_nil) (zz_rc (⟨⟨by decide, Or.inl ⟨by decide +kernel, by decide +kernel, by decide +kernel⟩⟩, ⟨cl_La_13, cs_La_13⟩, by decide, by decide, by decide⟩) (zz_rc (⟨⟨by decide, Or.inl ⟨by decide +kernel, by decide +kernel, by decide +kernel⟩⟩, ⟨cl_La_15, cs_La_15⟩, by decide, by decide, by decide⟩) (fun h hh => (nomatch hh)))) ?_
  rintro As ws k ⟨s, ⟨⟨th, tp, ln, aa, wr, pl⟩, ta, ⟨⟨td, le, ge, re, lg, ne⟩, ⟨nn, nk, nr, nx⟩, su, ⟨wa, ot, fm, tz⟩⟩, ⟨rk, mr, un, bg, bf⟩, kd, im⟩, ov, n, w, m, hp0, hp1, rfl, rfl, hk⟩
  refine ⟨Nat.le_of_ble_eq_true rfl, 40, ?_⟩
  refine (And.intro (And.intro rfl (And.intro rfl (And.intro rfl (And.intro (by decide) (by decide))))) ?_)
  refine Exists.intro s (Exists.intro (gM ((th, tp, ln, aa, wr, pl), ta, ((td, le, ge, re, lg, ne), (nn, nk, nr, nx), su, (wa, ot, fm, tz)), (rk, mr, un, bg, bf), kd, im) ++ [oL ov]) (Exists.intro n (Exists.intro w (Exists.intro m (And.intro hp0 (And.intro hp1 (And.intro rfl (And.intro rfl (?_)))))))))
  exact zo_map hk (fun h => ⟨rfl, ⟨by decide, by decide⟩, [], ("java/lang/IndexOutOfBoundsException", 14, 13, 1, 5), [("java/lang/UnsupportedOperationException", 18, 15, 2, 5)], rfl, rfl, by decide, h⟩) (fun h => ⟨rfl, ⟨by decide, by decide⟩, [("java/lang/IndexOutOfBoundsException", 14, 13, 1, 5)], ("java/lang/UnsupportedOperationException", 18, 15, 2, 5), [], rfl, rfl, by decide, h⟩) (fun h => h) (fun h => by
      have h2 := h
      unfold gX at h2
      try unfold gX
      rw [← fC_p46] at h2 ⊢
      exact And.intro (zn_in (i := 0) (by decide) (by decide)) (And.intro trivial (And.intro (And.intro (by decide) (by decide)) h2)))
def pt_La_person : zz_PW := fun As ws k => ∃ (s : qC) (t : qM) (ov : Nat → Int64) (p r m : Int32), As = [.ref 0, .int p, .int r, .int m] ∧ ws = gX s t ov ∧ zo (oPerson p r m) (k (some (.int 1)) (gX s t ov)) (k (some (.int 2)) (gX s t ov)) (False) (k (some (.int 0)) (gX (uPerson s p r m) t ov))
set_option maxHeartbeats 4000000 in
set_option maxRecDepth 100000 in
theorem m_La_person (l : Launch) (hl : l.stackTraces = false) : zz_MW zz_CL l y_La_person (Cond.codeWith y_La_person c_La_person 5 (some .int) (zz_hh 7 [("java/lang/IllegalArgumentException", 10, 27, 1, 4), ("java/lang/IndexOutOfBoundsException", 14, 13, 2, 4)]) :: zz_big) (zz_rm 8 125 1 6) 1 6 pt_La_person := by
  refine zz_MW_of (HOST := "CrewRules") (L := [(0, 23, (4, false, 0, 0, pt_Cr_person))]) (sw := sw_La_person) (pg := pg_La_person) (pc0 := 4) (by decide +kernel) zz_static (by decide) (by decide) ok_La_person (zz_cons (zz_ev_V (m_Cr_person l hl) yw_Cr_person yv_Cr_person lk_La_23 ⟨rfl, rfl, by decide, by decide⟩ (ci := 0) rfl recv_Cr_person) zz_nil) (zz_rc (⟨⟨by decide, Or.inl ⟨by decide +kernel, by decide +kernel, by decide +kernel⟩⟩, ⟨cl_La_27, cs_La_27⟩, by decide, by decide, by decide⟩) (zz_rc (⟨⟨by decide, Or.inl ⟨by decide +kernel, by decide +kernel, by decide +kernel⟩⟩, ⟨cl_La_13, cs_La_13⟩, by decide, by decide, by decide⟩) (fun h hh => (nomatch hh)))) ?_
  rintro As ws k ⟨s, ⟨⟨th, tp, ln, aa, wr, pl⟩, ta, ⟨⟨td, le, ge, re, lg, ne⟩, ⟨nn, nk, nr, nx⟩, su, ⟨wa, ot, fm, tz⟩⟩, ⟨rk, mr, un, bg, bf⟩, kd, im⟩, ov, p, r, m, rfl, rfl, hk⟩
  refine ⟨Nat.le_of_ble_eq_true rfl, 40, ?_⟩
  refine (And.intro (And.intro rfl (And.intro rfl (And.intro rfl (And.intro (by decide) (by decide))))) ?_)
  refine Exists.intro s (Exists.intro (gM ((th, tp, ln, aa, wr, pl), ta, ((td, le, ge, re, lg, ne), (nn, nk, nr, nx), su, (wa, ot, fm, tz)), (rk, mr, un, bg, bf), kd, im) ++ [oL ov]) (Exists.intro p (Exists.intro r (Exists.intro m (And.intro rfl (And.intro rfl (?_)))))))
  exact zo_map hk (fun h => ⟨rfl, ⟨by decide, by decide⟩, [], ("java/lang/IllegalArgumentException", 10, 27, 1, 4), [("java/lang/IndexOutOfBoundsException", 14, 13, 2, 4)], rfl, rfl, by decide, h⟩) (fun h => ⟨rfl, ⟨by decide, by decide⟩, [("java/lang/IllegalArgumentException", 10, 27, 1, 4)], ("java/lang/IndexOutOfBoundsException", 14, 13, 2, 4), [], rfl, rfl, by decide, h⟩) (fun h => h) (fun h => And.intro trivial (And.intro (And.intro (by decide) (by decide)) (h)))
def pt_La_skill : zz_PW := fun As ws k => ∃ (s : qC) (t : qM) (ov : Nat → Int64) (p j h : Int32), As = [.ref 0, .int p, .int j, .int h] ∧ ws = gX s t ov ∧ zo (oSkill p j h) (k (some (.int 1)) (gX s t ov)) (k (some (.int 2)) (gX s t ov)) (False) (k (some (.int 0)) (gX (uSkill s p j h) t ov))
set_option maxHeartbeats 4000000 in
set_option maxRecDepth 100000 in
theorem m_La_skill (l : Launch) (hl : l.stackTraces = false) : zz_MW zz_CL l y_La_skill (Cond.codeWith y_La_skill c_La_skill 5 (some .int) (zz_hh 7 [("java/lang/IllegalArgumentException", 10, 27, 1, 4), ("java/lang/IndexOutOfBoundsException", 14, 13, 2, 4)]) :: zz_big) (zz_rm 8 125 1 6) 1 6 pt_La_skill := by
  refine zz_MW_of (HOST := "CrewRules") (L := [(0, 29, (4, false, 0, 0, pt_Cr_skill))]) (sw := sw_La_skill) (pg := pg_La_skill) (pc0 := 4) (by decide +kernel) zz_static (by decide) (by decide) ok_La_skill (zz_cons (zz_ev_V (m_Cr_skill l hl) yw_Cr_skill yv_Cr_skill lk_La_29 ⟨rfl, rfl, by decide, by decide⟩ (ci := 0) rfl recv_Cr_skill) zz_nil) (zz_rc (⟨⟨by decide, Or.inl ⟨by decide +kernel, by decide +kernel, by decide +kernel⟩⟩, ⟨cl_La_27, cs_La_27⟩, by decide, by decide, by decide⟩) (zz_rc (⟨⟨by decide, Or.inl ⟨by decide +kernel, by decide +kernel, by decide +kernel⟩⟩, ⟨cl_La_13, cs_La_13⟩, by decide, by decide, by decide⟩) (fun h hh => (nomatch hh)))) ?_
  rintro As ws k ⟨s, ⟨⟨th, tp, ln, aa, wr, pl⟩, ta, ⟨⟨td, le, ge, re, lg, ne⟩, ⟨nn, nk, nr, nx⟩, su, ⟨wa, ot, fm, tz⟩⟩, ⟨rk, mr, un, bg, bf⟩, kd, im⟩, ov, p, j, h, rfl, rfl, hk⟩
  refine ⟨Nat.le_of_ble_eq_true rfl, 40, ?_⟩
  refine (And.intro (And.intro rfl (And.intro rfl (And.intro rfl (And.intro (by decide) (by decide))))) ?_)
  refine Exists.intro s (Exists.intro (gM ((th, tp, ln, aa, wr, pl), ta, ((td, le, ge, re, lg, ne), (nn, nk, nr, nx), su, (wa, ot, fm, tz)), (rk, mr, un, bg, bf), kd, im) ++ [oL ov]) (Exists.intro p (Exists.intro j (Exists.intro h (And.intro rfl (And.intro rfl (?_)))))))
  exact zo_map hk (fun h => ⟨rfl, ⟨by decide, by decide⟩, [], ("java/lang/IllegalArgumentException", 10, 27, 1, 4), [("java/lang/IndexOutOfBoundsException", 14, 13, 2, 4)], rfl, rfl, by decide, h⟩) (fun h => ⟨rfl, ⟨by decide, by decide⟩, [("java/lang/IllegalArgumentException", 10, 27, 1, 4)], ("java/lang/IndexOutOfBoundsException", 14, 13, 2, 4), [], rfl, rfl, by decide, h⟩) (fun h => h) (fun h => And.intro trivial (And.intro (And.intro (by decide) (by decide)) (h)))
def pt_La_duty : zz_PW := fun As ws k => ∃ (s : qC) (t : qM) (ov : Nat → Int64) (p b e : Int32), As = [.ref 0, .int p, .int b, .int e] ∧ ws = gX s t ov ∧ zo (oDuty p b e) (k (some (.int 1)) (gX s t ov)) (k (some (.int 2)) (gX s t ov)) (False) (k (some (.int 0)) (gX (uDuty s p b e) t ov))
set_option maxHeartbeats 4000000 in
set_option maxRecDepth 100000 in
theorem m_La_duty (l : Launch) (hl : l.stackTraces = false) : zz_MW zz_CL l y_La_duty (Cond.codeWith y_La_duty c_La_duty 5 (some .int) (zz_hh 7 [("java/lang/IllegalArgumentException", 10, 27, 1, 4), ("java/lang/IndexOutOfBoundsException", 14, 13, 2, 4)]) :: zz_big) (zz_rm 8 125 1 6) 1 6 pt_La_duty := by
  refine zz_MW_of (HOST := "CrewRules") (L := [(0, 32, (4, false, 0, 0, pt_Cr_duty))]) (sw := sw_La_duty) (pg := pg_La_duty) (pc0 := 4) (by decide +kernel) zz_static (by decide) (by decide) ok_La_duty (zz_cons (zz_ev_V (m_Cr_duty l hl) yw_Cr_duty yv_Cr_duty lk_La_32 ⟨rfl, rfl, by decide, by decide⟩ (ci := 0) rfl recv_Cr_duty) zz_nil) (zz_rc (⟨⟨by decide, Or.inl ⟨by decide +kernel, by decide +kernel, by decide +kernel⟩⟩, ⟨cl_La_27, cs_La_27⟩, by decide, by decide, by decide⟩) (zz_rc (⟨⟨by decide, Or.inl ⟨by decide +kernel, by decide +kernel, by decide +kernel⟩⟩, ⟨cl_La_13, cs_La_13⟩, by decide, by decide, by decide⟩) (fun h hh => (nomatch hh)))) ?_
  rintro As ws k ⟨s, ⟨⟨th, tp, ln, aa, wr, pl⟩, ta, ⟨⟨td, le, ge, re, lg, ne⟩, ⟨nn, nk, nr, nx⟩, su, ⟨wa, ot, fm, tz⟩⟩, ⟨rk, mr, un, bg, bf⟩, kd, im⟩, ov, p, b, e, rfl, rfl, hk⟩
  refine ⟨Nat.le_of_ble_eq_true rfl, 40, ?_⟩
  refine (And.intro (And.intro rfl (And.intro rfl (And.intro rfl (And.intro (by decide) (by decide))))) ?_)
  refine Exists.intro s (Exists.intro (gM ((th, tp, ln, aa, wr, pl), ta, ((td, le, ge, re, lg, ne), (nn, nk, nr, nx), su, (wa, ot, fm, tz)), (rk, mr, un, bg, bf), kd, im) ++ [oL ov]) (Exists.intro p (Exists.intro b (Exists.intro e (And.intro rfl (And.intro rfl (?_)))))))
  exact zo_map hk (fun h => ⟨rfl, ⟨by decide, by decide⟩, [], ("java/lang/IllegalArgumentException", 10, 27, 1, 4), [("java/lang/IndexOutOfBoundsException", 14, 13, 2, 4)], rfl, rfl, by decide, h⟩) (fun h => ⟨rfl, ⟨by decide, by decide⟩, [("java/lang/IllegalArgumentException", 10, 27, 1, 4)], ("java/lang/IndexOutOfBoundsException", 14, 13, 2, 4), [], rfl, rfl, by decide, h⟩) (fun h => h) (fun h => And.intro trivial (And.intro (And.intro (by decide) (by decide)) (h)))
def pt_La_kind : zz_PW := fun As ws k => ∃ (s : qC) (t : qM) (ov : Nat → Int64) (c j : Int32), As = [.ref 0, .int c, .int j] ∧ ws = gX s t ov ∧ zo (oKind c j) (k (some (.int 1)) (gX s t ov)) (k (some (.int 2)) (gX s t ov)) (False) (k (some (.int 0)) (gX (uKind s c j) t ov))
set_option maxHeartbeats 4000000 in
set_option maxRecDepth 100000 in
theorem m_La_kind (l : Launch) (hl : l.stackTraces = false) : zz_MW zz_CL l y_La_kind (Cond.codeWith y_La_kind c_La_kind 4 (some .int) (zz_hh 6 [("java/lang/IllegalArgumentException", 9, 27, 1, 3), ("java/lang/IndexOutOfBoundsException", 12, 13, 2, 3)]) :: zz_big) (zz_rm 8 124 1 6) 1 6 pt_La_kind := by
  refine zz_MW_of (HOST := "CrewRules") (L := [(0, 35, (3, false, 0, 0, pt_Cr_kind))]) (sw := sw_La_kind) (pg := pg_La_kind) (pc0 := 3) (by decide +kernel) zz_static (by decide) (by decide) ok_La_kind (zz_cons (zz_ev_V (m_Cr_kind l hl) yw_Cr_kind yv_Cr_kind lk_La_35 ⟨rfl, rfl, by decide, by decide⟩ (ci := 0) rfl recv_Cr_kind) zz_nil) (zz_rc (⟨⟨by decide, Or.inr ⟨3, rfl, by decide +kernel, by decide +kernel, by decide +kernel⟩⟩, ⟨cl_La_27, cs_La_27⟩, by decide, by decide, by decide⟩) (zz_rc (⟨⟨by decide, Or.inr ⟨3, rfl, by decide +kernel, by decide +kernel, by decide +kernel⟩⟩, ⟨cl_La_13, cs_La_13⟩, by decide, by decide, by decide⟩) (fun h hh => (nomatch hh)))) ?_
  rintro As ws k ⟨s, ⟨⟨th, tp, ln, aa, wr, pl⟩, ta, ⟨⟨td, le, ge, re, lg, ne⟩, ⟨nn, nk, nr, nx⟩, su, ⟨wa, ot, fm, tz⟩⟩, ⟨rk, mr, un, bg, bf⟩, kd, im⟩, ov, c, j, rfl, rfl, hk⟩
  refine ⟨Nat.le_of_ble_eq_true rfl, 40, ?_⟩
  refine (And.intro (And.intro rfl (And.intro rfl (And.intro rfl (And.intro (by decide) (by decide))))) ?_)
  refine Exists.intro s (Exists.intro (gM ((th, tp, ln, aa, wr, pl), ta, ((td, le, ge, re, lg, ne), (nn, nk, nr, nx), su, (wa, ot, fm, tz)), (rk, mr, un, bg, bf), kd, im) ++ [oL ov]) (Exists.intro c (Exists.intro j (And.intro rfl (And.intro rfl (?_))))))
  exact zo_map hk (fun h => ⟨rfl, ⟨by decide, by decide⟩, [], ("java/lang/IllegalArgumentException", 9, 27, 1, 3), [("java/lang/IndexOutOfBoundsException", 12, 13, 2, 3)], rfl, rfl, by decide, h⟩) (fun h => ⟨rfl, ⟨by decide, by decide⟩, [("java/lang/IllegalArgumentException", 9, 27, 1, 3)], ("java/lang/IndexOutOfBoundsException", 12, 13, 2, 3), [], rfl, rfl, by decide, h⟩) (fun h => h) (fun h => And.intro trivial (And.intro (And.intro (by decide) (by decide)) (h)))
def pt_La_join : zz_PW := fun As ws k => ∃ (s : qC) (t : qM) (ov : Nat → Int64) (c p : Int32), As = [.ref 0, .int c, .int p, .ref 70] ∧ ws = gX s t ov ∧ zo (oJoin s.2.2.2.1 c p) (k (some (.int 1)) (gX s t ov)) (k (some (.int 2)) (gX s t ov)) (k (some (.int 3)) (gX s t ov)) (k (some (.int 0)) (gX (uW s (cAdd c.toNatClampNeg p.toNatClampNeg s.2.2.2.1)) t (oP ov ((cAdd c.toNatClampNeg p.toNatClampNeg s.2.2.2.1).2.1 c.toNatClampNeg))))
set_option maxHeartbeats 4000000 in
set_option maxRecDepth 100000 in
theorem m_La_join (l : Launch) (hl : l.stackTraces = false) : zz_MW zz_CL l y_La_join (Cond.codeWith y_La_join c_La_join 5 (some .int) (zz_hh 10 [("java/lang/IllegalArgumentException", 13, 27, 1, 4), ("java/lang/IllegalStateException", 17, 21, 2, 4), ("java/lang/UnsupportedOperationException", 21, 15, 3, 4)]) :: zz_big) (zz_rm 8 124 1 6) 1 6 pt_La_join := by
  refine zz_MW_of (HOST := "CrewRules") (L := [(0, 39, (3, false, 0, 0, pt_Cr_join))]) (sw := sw_La_join) (pg := pg_La_join) (pc0 := 5) (by decide +kernel) zz_static (by decide) (by decide) ok_La_join (zz_cons (zz_ev_V (m_Cr_join l hl) yw_Cr_join yv_Cr_join lk_La_39 ⟨rfl, rfl, by decide, by decide⟩ (ci := 0) rfl recv_Cr_join) zz_nil) (zz_rc (⟨⟨by decide, Or.inl ⟨by decide +kernel, by decide +kernel, by decide +kernel⟩⟩, ⟨cl_La_27, cs_La_27⟩, by decide, by decide, by decide⟩) (zz_rc (⟨⟨by decide, Or.inl ⟨by decide +kernel, by decide +kernel, by decide +kernel⟩⟩, ⟨cl_La_21, cs_La_21⟩, by decide, by decide, by decide⟩) (zz_rc (⟨⟨by decide, Or.inl ⟨by decide +kernel, by decide +kernel, by decide +kernel⟩⟩, ⟨cl_La_15, cs_La_15⟩, by decide, by decide, by decide⟩) (fun h hh => (nomatch hh))))) ?_
  rintro As ws k ⟨s, ⟨⟨th, tp, ln, aa, wr, pl⟩, ta, ⟨⟨td, le, ge, re, lg, ne⟩, ⟨nn, nk, nr, nx⟩, su, ⟨wa, ot, fm, tz⟩⟩, ⟨rk, mr, un, bg, bf⟩, kd, im⟩, ov, c, p, rfl, rfl, hk⟩
  refine ⟨Nat.le_of_ble_eq_true rfl, 40, ?_⟩
  refine (And.intro (And.intro rfl (And.intro rfl (And.intro rfl (And.intro (by decide) (by decide))))) ?_)
  refine Exists.intro s (Exists.intro (gM ((th, tp, ln, aa, wr, pl), ta, ((td, le, ge, re, lg, ne), (nn, nk, nr, nx), su, (wa, ot, fm, tz)), (rk, mr, un, bg, bf), kd, im) ++ [oL ov]) (Exists.intro c (Exists.intro p (And.intro rfl (And.intro rfl (?_))))))
  exact zo_map hk (fun h => ⟨rfl, ⟨by decide, by decide⟩, [], ("java/lang/IllegalArgumentException", 13, 27, 1, 4), [("java/lang/IllegalStateException", 17, 21, 2, 4), ("java/lang/UnsupportedOperationException", 21, 15, 3, 4)], rfl, rfl, by decide, h⟩) (fun h => ⟨rfl, ⟨by decide, by decide⟩, [("java/lang/IllegalArgumentException", 13, 27, 1, 4)], ("java/lang/IllegalStateException", 17, 21, 2, 4), [("java/lang/UnsupportedOperationException", 21, 15, 3, 4)], rfl, rfl, by decide, h⟩) (fun h => ⟨rfl, ⟨by decide, by decide⟩, [("java/lang/IllegalArgumentException", 13, 27, 1, 4), ("java/lang/IllegalStateException", 17, 21, 2, 4)], ("java/lang/UnsupportedOperationException", 21, 15, 3, 4), [], rfl, rfl, by decide, h⟩) (fun h => by
      have h2 := h
      unfold gX at h2
      try unfold gX
      rw [← fC_p46] at h2 ⊢
      exact And.intro (zn_in (i := 0) (by decide) (by decide)) (And.intro trivial (And.intro (And.intro (by decide) (by decide)) h2)))
def pt_La_leave : zz_PW := fun As ws k => ∃ (s : qC) (t : qM) (ov : Nat → Int64) (c p : Int32), As = [.ref 0, .int c, .int p, .ref 70] ∧ ws = gX s t ov ∧ zo (oLeave s.2.2.2.1 c p) (k (some (.int 1)) (gX s t ov)) (k (some (.int 2)) (gX s t ov)) (False) (k (some (.int 0)) (gX (uW s (cRem c.toNatClampNeg p.toNatClampNeg s.2.2.2.1)) t (oP ov ((cRem c.toNatClampNeg p.toNatClampNeg s.2.2.2.1).2.1 c.toNatClampNeg))))
set_option maxHeartbeats 4000000 in
set_option maxRecDepth 100000 in
theorem m_La_leave (l : Launch) (hl : l.stackTraces = false) : zz_MW zz_CL l y_La_leave (Cond.codeWith y_La_leave c_La_leave 5 (some .int) (zz_hh 10 [("java/lang/IllegalArgumentException", 13, 27, 1, 4), ("java/lang/IllegalStateException", 17, 21, 2, 4)]) :: zz_big) (zz_rm 8 124 1 6) 1 6 pt_La_leave := by
  refine zz_MW_of (HOST := "CrewRules") (L := [(0, 43, (3, false, 0, 0, pt_Cr_leave))]) (sw := sw_La_leave) (pg := pg_La_leave) (pc0 := 5) (by decide +kernel) zz_static (by decide) (by decide) ok_La_leave (zz_cons (zz_ev_V (m_Cr_leave l hl) yw_Cr_leave yv_Cr_leave lk_La_43 ⟨rfl, rfl, by decide, by decide⟩ (ci := 0) rfl recv_Cr_leave) zz_nil) (zz_rc (⟨⟨by decide, Or.inl ⟨by decide +kernel, by decide +kernel, by decide +kernel⟩⟩, ⟨cl_La_27, cs_La_27⟩, by decide, by decide, by decide⟩) (zz_rc (⟨⟨by decide, Or.inl ⟨by decide +kernel, by decide +kernel, by decide +kernel⟩⟩, ⟨cl_La_21, cs_La_21⟩, by decide, by decide, by decide⟩) (fun h hh => (nomatch hh)))) ?_
  rintro As ws k ⟨s, ⟨⟨th, tp, ln, aa, wr, pl⟩, ta, ⟨⟨td, le, ge, re, lg, ne⟩, ⟨nn, nk, nr, nx⟩, su, ⟨wa, ot, fm, tz⟩⟩, ⟨rk, mr, un, bg, bf⟩, kd, im⟩, ov, c, p, rfl, rfl, hk⟩
  refine ⟨Nat.le_of_ble_eq_true rfl, 40, ?_⟩
  refine (And.intro (And.intro rfl (And.intro rfl (And.intro rfl (And.intro (by decide) (by decide))))) ?_)
  refine Exists.intro s (Exists.intro (gM ((th, tp, ln, aa, wr, pl), ta, ((td, le, ge, re, lg, ne), (nn, nk, nr, nx), su, (wa, ot, fm, tz)), (rk, mr, un, bg, bf), kd, im) ++ [oL ov]) (Exists.intro c (Exists.intro p (And.intro rfl (And.intro rfl (?_))))))
  exact zo_map hk (fun h => ⟨rfl, ⟨by decide, by decide⟩, [], ("java/lang/IllegalArgumentException", 13, 27, 1, 4), [("java/lang/IllegalStateException", 17, 21, 2, 4)], rfl, rfl, by decide, h⟩) (fun h => ⟨rfl, ⟨by decide, by decide⟩, [("java/lang/IllegalArgumentException", 13, 27, 1, 4)], ("java/lang/IllegalStateException", 17, 21, 2, 4), [], rfl, rfl, by decide, h⟩) (fun h => h) (fun h => by
      have h2 := h
      unfold gX at h2
      try unfold gX
      rw [← fC_p46] at h2 ⊢
      exact And.intro (zn_in (i := 0) (by decide) (by decide)) (And.intro trivial (And.intro (And.intro (by decide) (by decide)) h2)))
def pt_La_verdict : zz_PW := fun As ws k => ∃ (s : qC) (t : qM) (ov : Nat → Int64) (c h : Int32), wfB s.2.2.2.2.2.1 ∧ wfK s.2.2.2.1.1 ∧ As = [.ref 0, .int c, .int h, .ref 70] ∧ ws = gX s t ov ∧ zo (oVerdict c h) (k (some (.int 1)) (gX s t ov)) (k (some (.int 2)) (gX s t ov)) (False) (∀ g : qG, k (some (.int 0)) (gX (uG s g) t (oP ov (aVerdict s c h))))
set_option maxHeartbeats 4000000 in
set_option maxRecDepth 100000 in
theorem m_La_verdict (l : Launch) (hl : l.stackTraces = false) : zz_MW zz_CL l y_La_verdict (Cond.codeWith y_La_verdict c_La_verdict 5 (some .int) (zz_hh 10 [("java/lang/IllegalArgumentException", 13, 27, 1, 4), ("java/lang/IndexOutOfBoundsException", 17, 13, 2, 4)]) :: zz_big) (zz_rm 8 139 1 6) 1 6 pt_La_verdict := by
  refine zz_MW_of (HOST := "CrewRules") (L := [(0, 46, (3, false, 0, 0, pt_Cr_verdict))]) (sw := sw_La_verdict) (pg := pg_La_verdict) (pc0 := 5) (by decide +kernel) zz_static (by decide) (by decide) ok_La_verdict (zz_cons (zz_ev_V (m_Cr_verdict l hl) yw_Cr_verdict yv_Cr_verdict lk_La_46 ⟨rfl, rfl, by decide, by decide⟩ (ci := 0) rfl recv_Cr_verdict) zz_nil) (zz_rc (⟨⟨by decide, Or.inl ⟨by decide +kernel, by decide +kernel, by decide +kernel⟩⟩, ⟨cl_La_27, cs_La_27⟩, by decide, by decide, by decide⟩) (zz_rc (⟨⟨by decide, Or.inl ⟨by decide +kernel, by decide +kernel, by decide +kernel⟩⟩, ⟨cl_La_13, cs_La_13⟩, by decide, by decide, by decide⟩) (fun h hh => (nomatch hh)))) ?_
  rintro As ws k ⟨s, ⟨⟨th, tp, ln, aa, wr, pl⟩, ta, ⟨⟨td, le, ge, re, lg, ne⟩, ⟨nn, nk, nr, nx⟩, su, ⟨wa, ot, fm, tz⟩⟩, ⟨rk, mr, un, bg, bf⟩, kd, im⟩, ov, c, h, hp0, hp1, rfl, rfl, hk⟩
  refine ⟨Nat.le_of_ble_eq_true rfl, 40, ?_⟩
  refine (And.intro (And.intro rfl (And.intro rfl (And.intro rfl (And.intro (by decide) (by decide))))) ?_)
  refine Exists.intro s (Exists.intro (gM ((th, tp, ln, aa, wr, pl), ta, ((td, le, ge, re, lg, ne), (nn, nk, nr, nx), su, (wa, ot, fm, tz)), (rk, mr, un, bg, bf), kd, im) ++ [oL ov]) (Exists.intro c (Exists.intro h (And.intro hp0 (And.intro hp1 (And.intro rfl (And.intro rfl (?_))))))))
  exact zo_map hk (fun h => ⟨rfl, ⟨by decide, by decide⟩, [], ("java/lang/IllegalArgumentException", 13, 27, 1, 4), [("java/lang/IndexOutOfBoundsException", 17, 13, 2, 4)], rfl, rfl, by decide, h⟩) (fun h => ⟨rfl, ⟨by decide, by decide⟩, [("java/lang/IllegalArgumentException", 13, 27, 1, 4)], ("java/lang/IndexOutOfBoundsException", 17, 13, 2, 4), [], rfl, rfl, by decide, h⟩) (fun h => h) (fun h => fun g => by
      have h2 := h g
      unfold gX at h2
      try unfold gX
      rw [← fC_p46] at h2 ⊢
      exact And.intro (zn_in (i := 0) (by decide) (by decide)) (And.intro trivial (And.intro (And.intro (by decide) (by decide)) h2)))
def pt_La_counts : zz_PW := fun As ws k => ∃ (s : qC) (t : qM) (ov : Nat → Int64) (c : Int32), As = [.ref 0, .int c, .ref 70] ∧ ws = gX s t ov ∧ zo (oCrew c) (k (some (.int 1)) (gX s t ov)) (False) (False) (∀ g : qG, k (some (.int 0)) (gX (uG s g) t (oP ov (nI (sG s c).length))))
set_option maxHeartbeats 4000000 in
set_option maxRecDepth 100000 in
theorem m_La_counts (l : Launch) (hl : l.stackTraces = false) : zz_MW zz_CL l y_La_counts (Cond.codeWith y_La_counts c_La_counts 4 (some .int) (zz_hh 9 [("java/lang/IllegalArgumentException", 12, 27, 1, 3)]) :: zz_big) (zz_rm 8 130 1 6) 1 6 pt_La_counts := by
  refine zz_MW_of (HOST := "CrewRules") (L := [(0, 49, (2, false, 0, 0, pt_Cr_counts))]) (sw := sw_La_counts) (pg := pg_La_counts) (pc0 := 4) (by decide +kernel) zz_static (by decide) (by decide) ok_La_counts (zz_cons (zz_ev_V (m_Cr_counts l hl) yw_Cr_counts yv_Cr_counts lk_La_49 ⟨rfl, rfl, by decide, by decide⟩ (ci := 0) rfl recv_Cr_counts) zz_nil) (zz_rc (⟨⟨by decide, Or.inr ⟨3, rfl, by decide +kernel, by decide +kernel, by decide +kernel⟩⟩, ⟨cl_La_27, cs_La_27⟩, by decide, by decide, by decide⟩) (fun h hh => (nomatch hh))) ?_
  rintro As ws k ⟨s, ⟨⟨th, tp, ln, aa, wr, pl⟩, ta, ⟨⟨td, le, ge, re, lg, ne⟩, ⟨nn, nk, nr, nx⟩, su, ⟨wa, ot, fm, tz⟩⟩, ⟨rk, mr, un, bg, bf⟩, kd, im⟩, ov, c, rfl, rfl, hk⟩
  refine ⟨Nat.le_of_ble_eq_true rfl, 40, ?_⟩
  refine (And.intro (And.intro rfl (And.intro rfl (And.intro rfl (And.intro (by decide) (by decide))))) ?_)
  refine Exists.intro s (Exists.intro (gM ((th, tp, ln, aa, wr, pl), ta, ((td, le, ge, re, lg, ne), (nn, nk, nr, nx), su, (wa, ot, fm, tz)), (rk, mr, un, bg, bf), kd, im) ++ [oL ov]) (Exists.intro c (And.intro rfl (And.intro rfl (?_)))))
  exact zo_map hk (fun h => ⟨rfl, ⟨by decide, by decide⟩, [], ("java/lang/IllegalArgumentException", 12, 27, 1, 3), [], rfl, rfl, by decide, h⟩) (fun h => h) (fun h => h) (fun h => fun g => by
      have h2 := h g
      unfold gX at h2
      try unfold gX
      rw [← fC_p46] at h2 ⊢
      exact And.intro (zn_in (i := 0) (by decide) (by decide)) (And.intro trivial (And.intro (And.intro (by decide) (by decide)) h2)))
def pt_La_having : zz_PW := fun As ws k => ∃ (s : qC) (t : qM) (ov : Nat → Int64) (c j r h : Int32), wfB s.2.2.2.2.2.1 ∧ As = [.ref 0, .int c, .int j, .int r, .int h, .ref 70] ∧ ws = gX s t ov ∧ zo (oHaving c j r h) (k (some (.int 1)) (gX s t ov)) (k (some (.int 2)) (gX s t ov)) (False) (∀ g : qG, k (some (.int 0)) (gX (uG s g) t (oP ov (aHaving s c j r h))))
set_option maxHeartbeats 4000000 in
set_option maxRecDepth 100000 in
theorem m_La_having (l : Launch) (hl : l.stackTraces = false) : zz_MW zz_CL l y_La_having (Cond.codeWith y_La_having c_La_having 7 (some .int) (zz_hh 14 [("java/lang/IllegalArgumentException", 17, 27, 1, 6), ("java/lang/IndexOutOfBoundsException", 21, 13, 2, 6)]) :: zz_big) (zz_rm 8 133 1 6) 1 6 pt_La_having := by
  refine zz_MW_of (HOST := "CrewRules") (L := [(0, 53, (5, false, 0, 0, pt_Cr_having))]) (sw := sw_La_having) (pg := pg_La_having) (pc0 := 9) (by decide +kernel) zz_static (by decide) (by decide) ok_La_having (zz_cons (zz_ev_V (m_Cr_having l hl) yw_Cr_having yv_Cr_having lk_La_53 ⟨rfl, rfl, by decide, by decide⟩ (ci := 0) rfl recv_Cr_having) zz_nil) (zz_rc (⟨⟨by decide, Or.inl ⟨by decide +kernel, by decide +kernel, by decide +kernel⟩⟩, ⟨cl_La_27, cs_La_27⟩, by decide, by decide, by decide⟩) (zz_rc (⟨⟨by decide, Or.inl ⟨by decide +kernel, by decide +kernel, by decide +kernel⟩⟩, ⟨cl_La_13, cs_La_13⟩, by decide, by decide, by decide⟩) (fun h hh => (nomatch hh)))) ?_
  rintro As ws k ⟨s, ⟨⟨th, tp, ln, aa, wr, pl⟩, ta, ⟨⟨td, le, ge, re, lg, ne⟩, ⟨nn, nk, nr, nx⟩, su, ⟨wa, ot, fm, tz⟩⟩, ⟨rk, mr, un, bg, bf⟩, kd, im⟩, ov, c, j, r, h, hp0, rfl, rfl, hk⟩
  refine ⟨Nat.le_of_ble_eq_true rfl, 40, ?_⟩
  refine (And.intro (And.intro rfl (And.intro rfl (And.intro rfl (And.intro (by decide) (by decide))))) ?_)
  refine Exists.intro s (Exists.intro (gM ((th, tp, ln, aa, wr, pl), ta, ((td, le, ge, re, lg, ne), (nn, nk, nr, nx), su, (wa, ot, fm, tz)), (rk, mr, un, bg, bf), kd, im) ++ [oL ov]) (Exists.intro c (Exists.intro j (Exists.intro r (Exists.intro h (And.intro hp0 (And.intro rfl (And.intro rfl (?_)))))))))
  exact zo_map hk (fun h => ⟨rfl, ⟨by decide, by decide⟩, [], ("java/lang/IllegalArgumentException", 17, 27, 1, 6), [("java/lang/IndexOutOfBoundsException", 21, 13, 2, 6)], rfl, rfl, by decide, h⟩) (fun h => ⟨rfl, ⟨by decide, by decide⟩, [("java/lang/IllegalArgumentException", 17, 27, 1, 6)], ("java/lang/IndexOutOfBoundsException", 21, 13, 2, 6), [], rfl, rfl, by decide, h⟩) (fun h => h) (fun h => fun g => by
      have h2 := h g
      unfold gX at h2
      try unfold gX
      rw [← fC_p46] at h2 ⊢
      exact And.intro (zn_in (i := 0) (by decide) (by decide)) (And.intro trivial (And.intro (And.intro (by decide) (by decide)) h2)))
def pt_La_leader : zz_PW := fun As ws k => ∃ (s : qC) (t : qM) (ov : Nat → Int64) (c : Int32), As = [.ref 0, .int c, .ref 70] ∧ ws = gX s t ov ∧ zo (oCrew c) (k (some (.int 1)) (gX s t ov)) (False) (False) (∀ g : qG, k (some (.int 0)) (gX (uG s g) t (oP ov (gr ((sG s c).foldl (gb s.2.2.1.1 s.2.2.1.2.1) none)))))
set_option maxHeartbeats 4000000 in
set_option maxRecDepth 100000 in
theorem m_La_leader (l : Launch) (hl : l.stackTraces = false) : zz_MW zz_CL l y_La_leader (Cond.codeWith y_La_leader c_La_leader 4 (some .int) (zz_hh 9 [("java/lang/IllegalArgumentException", 12, 27, 1, 3)]) :: zz_big) (zz_rm 8 130 1 6) 1 6 pt_La_leader := by
  refine zz_MW_of (HOST := "CrewRules") (L := [(0, 57, (2, false, 0, 0, pt_Cr_leader))]) (sw := sw_La_leader) (pg := pg_La_leader) (pc0 := 4) (by decide +kernel) zz_static (by decide) (by decide) ok_La_leader (zz_cons (zz_ev_V (m_Cr_leader l hl) yw_Cr_leader yv_Cr_leader lk_La_57 ⟨rfl, rfl, by decide, by decide⟩ (ci := 0) rfl recv_Cr_leader) zz_nil) (zz_rc (⟨⟨by decide, Or.inr ⟨3, rfl, by decide +kernel, by decide +kernel, by decide +kernel⟩⟩, ⟨cl_La_27, cs_La_27⟩, by decide, by decide, by decide⟩) (fun h hh => (nomatch hh))) ?_
  rintro As ws k ⟨s, ⟨⟨th, tp, ln, aa, wr, pl⟩, ta, ⟨⟨td, le, ge, re, lg, ne⟩, ⟨nn, nk, nr, nx⟩, su, ⟨wa, ot, fm, tz⟩⟩, ⟨rk, mr, un, bg, bf⟩, kd, im⟩, ov, c, rfl, rfl, hk⟩
  refine ⟨Nat.le_of_ble_eq_true rfl, 40, ?_⟩
  refine (And.intro (And.intro rfl (And.intro rfl (And.intro rfl (And.intro (by decide) (by decide))))) ?_)
  refine Exists.intro s (Exists.intro (gM ((th, tp, ln, aa, wr, pl), ta, ((td, le, ge, re, lg, ne), (nn, nk, nr, nx), su, (wa, ot, fm, tz)), (rk, mr, un, bg, bf), kd, im) ++ [oL ov]) (Exists.intro c (And.intro rfl (And.intro rfl (?_)))))
  exact zo_map hk (fun h => ⟨rfl, ⟨by decide, by decide⟩, [], ("java/lang/IllegalArgumentException", 12, 27, 1, 3), [], rfl, rfl, by decide, h⟩) (fun h => h) (fun h => h) (fun h => fun g => by
      have h2 := h g
      unfold gX at h2
      try unfold gX
      rw [← fC_p46] at h2 ⊢
      exact And.intro (zn_in (i := 0) (by decide) (by decide)) (And.intro trivial (And.intro (And.intro (by decide) (by decide)) h2)))
def pt_La_never : zz_PW := fun As ws k => ∃ (s : qC) (t : qM) (ov : Nat → Int64) (h i : Int32), wfB s.2.2.2.2.2.1 ∧ As = [.ref 0, .int h, .int i, .ref 70] ∧ ws = gX s t ov ∧ zo (oNever h i) (k (some (.int 1)) (gX s t ov)) (False) (False) (∀ g : qG, k (some (.int 0)) (gX (uG s g) t (oP ov (aNever s.2.2.1 s.2.2.2.2.2.1 h i))))
set_option maxHeartbeats 4000000 in
set_option maxRecDepth 100000 in
theorem m_La_never (l : Launch) (hl : l.stackTraces = false) : zz_MW zz_CL l y_La_never (Cond.codeWith y_La_never c_La_never 5 (some .int) (zz_hh 10 [("java/lang/IndexOutOfBoundsException", 13, 13, 1, 4)]) :: zz_big) (zz_rm 8 137 1 6) 1 6 pt_La_never := by
  refine zz_MW_of (HOST := "CrewRules") (L := [(0, 60, (3, false, 0, 0, pt_Cr_never))]) (sw := sw_La_never) (pg := pg_La_never) (pc0 := 5) (by decide +kernel) zz_static (by decide) (by decide) ok_La_never (zz_cons (zz_ev_V (m_Cr_never l hl) yw_Cr_never yv_Cr_never lk_La_60 ⟨rfl, rfl, by decide, by decide⟩ (ci := 0) rfl recv_Cr_never) zz_nil) (zz_rc (⟨⟨by decide, Or.inl ⟨by decide +kernel, by decide +kernel, by decide +kernel⟩⟩, ⟨cl_La_13, cs_La_13⟩, by decide, by decide, by decide⟩) (fun h hh => (nomatch hh))) ?_
  rintro As ws k ⟨s, ⟨⟨th, tp, ln, aa, wr, pl⟩, ta, ⟨⟨td, le, ge, re, lg, ne⟩, ⟨nn, nk, nr, nx⟩, su, ⟨wa, ot, fm, tz⟩⟩, ⟨rk, mr, un, bg, bf⟩, kd, im⟩, ov, h, i, hp0, rfl, rfl, hk⟩
  refine ⟨Nat.le_of_ble_eq_true rfl, 40, ?_⟩
  refine (And.intro (And.intro rfl (And.intro rfl (And.intro rfl (And.intro (by decide) (by decide))))) ?_)
  refine Exists.intro s (Exists.intro (gM ((th, tp, ln, aa, wr, pl), ta, ((td, le, ge, re, lg, ne), (nn, nk, nr, nx), su, (wa, ot, fm, tz)), (rk, mr, un, bg, bf), kd, im) ++ [oL ov]) (Exists.intro h (Exists.intro i (And.intro hp0 (And.intro rfl (And.intro rfl (?_)))))))
  exact zo_map hk (fun h => ⟨rfl, ⟨by decide, by decide⟩, [], ("java/lang/IndexOutOfBoundsException", 13, 13, 1, 4), [], rfl, rfl, by decide, h⟩) (fun h => h) (fun h => h) (fun h => fun g => by
      have h2 := h g
      unfold gX at h2
      try unfold gX
      rw [← fC_p46] at h2 ⊢
      exact And.intro (zn_in (i := 0) (by decide) (by decide)) (And.intro trivial (And.intro (And.intro (by decide) (by decide)) h2)))
def pt_La_rule : zz_PW := fun As ws k => ∃ (s : qC) (t : qM) (ov : Nat → Int64) (j w : Int32), As = [.ref 0, .int j, .int w, .ref 70] ∧ ws = gX s t ov ∧ zo (oRule s.2.2.2.2.2.1 j w) (k (some (.int 1)) (gX s t ov)) (False) (False) (k (some (.int 0)) (gX s t (oP ov (aRule s.2.2.2.2.2.1 j w))))
set_option maxHeartbeats 4000000 in
set_option maxRecDepth 100000 in
theorem m_La_rule (l : Launch) (hl : l.stackTraces = false) : zz_MW zz_CL l y_La_rule (Cond.codeWith y_La_rule c_La_rule 5 (some .int) (zz_hh 10 [("java/lang/IllegalArgumentException", 13, 27, 1, 4)]) :: zz_big) (zz_rm 7 104 1 6) 1 6 pt_La_rule := by
  refine zz_MW_of (HOST := "CrewRules") (L := [(0, 63, (3, false, 0, 0, pt_Cr_rule))]) (sw := sw_La_rule) (pg := pg_La_rule) (pc0 := 5) (by decide +kernel) zz_static (by decide) (by decide) ok_La_rule (zz_cons (zz_ev_V (m_Cr_rule l hl) yw_Cr_rule yv_Cr_rule lk_La_63 ⟨rfl, rfl, by decide, by decide⟩ (ci := 0) rfl recv_Cr_rule) zz_nil) (zz_rc (⟨⟨by decide, Or.inl ⟨by decide +kernel, by decide +kernel, by decide +kernel⟩⟩, ⟨cl_La_27, cs_La_27⟩, by decide, by decide, by decide⟩) (fun h hh => (nomatch hh))) ?_
  rintro As ws k ⟨s, ⟨⟨th, tp, ln, aa, wr, pl⟩, ta, ⟨⟨td, le, ge, re, lg, ne⟩, ⟨nn, nk, nr, nx⟩, su, ⟨wa, ot, fm, tz⟩⟩, ⟨rk, mr, un, bg, bf⟩, kd, im⟩, ov, j, w, rfl, rfl, hk⟩
  refine ⟨Nat.le_of_ble_eq_true rfl, 40, ?_⟩
  refine (And.intro (And.intro rfl (And.intro rfl (And.intro rfl (And.intro (by decide) (by decide))))) ?_)
  refine Exists.intro s (Exists.intro (gM ((th, tp, ln, aa, wr, pl), ta, ((td, le, ge, re, lg, ne), (nn, nk, nr, nx), su, (wa, ot, fm, tz)), (rk, mr, un, bg, bf), kd, im) ++ [oL ov]) (Exists.intro j (Exists.intro w (And.intro rfl (And.intro rfl (?_))))))
  exact zo_map hk (fun h => ⟨rfl, ⟨by decide, by decide⟩, [], ("java/lang/IllegalArgumentException", 13, 27, 1, 4), [], rfl, rfl, by decide, h⟩) (fun h => h) (fun h => h) (fun h => by
      have h2 := h
      unfold gX at h2
      try unfold gX
      rw [← fC_p46] at h2 ⊢
      exact And.intro (zn_in (i := 0) (by decide) (by decide)) (And.intro trivial (And.intro (And.intro (by decide) (by decide)) h2)))
def rBad (s : qC) (r : Int32 × Nat × qB) : qC := ((s.1.1, 0), nI r.2.1, s.2.2.1, s.2.2.2.1, s.2.2.2.2.1, s.2.2.2.2.2.1, r.2.2, s.2.2.2.2.2.2.2.1, r.1)
def rGood (s : qC) (r : Int32 × Nat × qB) : qC := ((s.1.1, 0), nI r.2.1, s.2.2.1, s.2.2.2.1, s.2.2.2.2.1, r.2.2, s.2.2.2.2.2.1, !s.2.2.2.2.2.2.2.1, -1)
def pt_La_read : zz_PW := fun As ws k => ∃ (s : qC) (t : qM) (ov : Nat → Int64) (n : Nat), s.1.2 = nI n ∧ by8 s.1.1 n ∧ As = [.ref 0, .ref 70] ∧ ws = gX s t ov ∧ ∀ (le : qA) (r : Int32 × Nat × qB), (∀ j, j < 10 → le j = -1) → r = pText s.1.1 n 300 0 (bClear s.2.2.2.2.2.2.1 le) → (¬ r.1 = -1 → k (some (.int 1)) (gX (rBad s r) t ov)) ∧ (r.1 = -1 → k (some (.int 0)) (gX (rGood s r) t (oP ov r.2.2.2.1)))
set_option maxHeartbeats 4000000 in
set_option maxRecDepth 100000 in
theorem m_La_read (l : Launch) (hl : l.stackTraces = false) : zz_MW zz_CL l y_La_read (Cond.codeWith y_La_read c_La_read 3 (some .int) (zz_hh 8 [("java/lang/IllegalStateException", 11, 21, 1, 2)]) :: zz_big) (zz_rm 8 180 1 6) 1 6 pt_La_read := by
  refine zz_MW_of (HOST := "CrewRules") (L := [(0, 17, (1, false, 0, 0, pt_Cr_read))]) (sw := sw_La_read) (pg := pg_La_read) (pc0 := 3) (by decide +kernel) zz_static (by decide) (by decide) ok_La_read (zz_cons (zz_ev_V (m_Cr_read l hl) yw_Cr_read yv_Cr_read lk_La_17 ⟨rfl, rfl, by decide, by decide⟩ (ci := 0) rfl recv_Cr_read) zz_nil) (zz_rc (⟨⟨by decide, Or.inr ⟨2, rfl, by decide +kernel, by decide +kernel, by decide +kernel⟩⟩, ⟨cl_La_21, cs_La_21⟩, by decide, by decide, by decide⟩) (fun h hh => (nomatch hh))) ?_
  rintro As ws k ⟨s, ⟨⟨th, tp, ln, aa, wr, pl⟩, ta, ⟨⟨td, le, ge, re, lg, ne⟩, ⟨nn, nk, nr, nx⟩, su, ⟨wa, ot, fm, tz⟩⟩, ⟨rk, mr, un, bg, bf⟩, kd, im⟩, ov, n, hp0, hp1, rfl, rfl, hk⟩
  refine ⟨Nat.le_of_ble_eq_true rfl, 40, ?_⟩
  refine (And.intro (And.intro rfl (And.intro rfl (And.intro rfl (And.intro (by decide) (by decide))))) ?_)
  refine Exists.intro s (Exists.intro (gM ((th, tp, ln, aa, wr, pl), ta, ((td, le, ge, re, lg, ne), (nn, nk, nr, nx), su, (wa, ot, fm, tz)), (rk, mr, un, bg, bf), kd, im) ++ [oL ov]) (Exists.intro n (And.intro hp0 (And.intro hp1 (And.intro rfl (And.intro rfl ((fun le r hle her => ?_))))))))
  refine ⟨fun hr => ?_, fun hr => ?_⟩
  · exact ⟨rfl, ⟨by decide, by decide⟩, [], ("java/lang/IllegalStateException", 11, 21, 1, 2), [], rfl, rfl, by decide, (hk le r hle her).1 hr⟩
  · have h2 := (hk le r hle her).2 hr
    unfold gX rGood at h2
    rw [← fC_p46] at h2 ⊢
    exact And.intro (zn_in (i := 0) (by decide) (by decide)) (And.intro trivial (And.intro (And.intro (by decide) (by decide)) h2))
