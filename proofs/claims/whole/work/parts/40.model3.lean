/-! ===== the model: what is asked ===== -/
def kH (un : qA) (p s : Nat) (h : Int32) : Bool := !decide (un (10 * p + s) ≤ h)
def kX (un : qA) (S : qA × qA × qA × qA) (p s : Nat) (h : Int32) (i : Nat) : Bool := decide (S.1 i = nI s) && (bw (bd h) (S.2.2.1 i) (S.2.2.2 i) && kH un p (S.2.1 i).toNatClampNeg h)
def kV (un : qA) (S : qA × qA × qA × qA) (p s : Nat) (h : Int32) (j : Nat) : Bool := kH un p s h || aN (kX un S p s h) j
def kY (im mr : qA) (cc : Option Nat) (p : Nat) : Bool := match cc with
  | none => !lr mr p
  | some c => kF im mr c p
def kG (im : qA) (pp : qA × qA × qA × qA × qA) (S : qA × qA × qA × qA) (q : Nat) (cc : Option Nat) (s : Nat) (r h : Int32) (p : Nat) : Bool := kY im pp.2.1 cc p && (!decide (pp.1 p < r) && kV pp.2.2.1 S p s h q)
/-- how many serve -/
def kE (im : qA) (pp : qA × qA × qA × qA × qA) (H : qH) (cc : Option Nat) (s : Nat) (r h : Int32) : Nat := nN (kG im pp H.2.2.2 (H.2.2.1 0).toNatClampNeg cc s r h) 50
/-- the substitutes are well told -/
def wfS (H : qH) : Prop := ∃ q, q ≤ 10 ∧ H.2.2.1 0 = nI q ∧ ∀ i, i < q → ∃ u, u < 10 ∧ H.2.2.2.2.1 i = nI u
/-- the needs of the rules that are told are well told -/
def wfN (H : qH) (j : Nat) : Prop := ∃ m, m ≤ 6 ∧ H.1.2.2.2.2.2 j = nI m ∧ ∀ i, i < m → ∃ s, s < 10 ∧ H.2.1.2.1 (6 * j + i) = nI s
def pt_Mo_has : zz_PT := fun As ws k _ => ∃ (f : Nat → va_E) (R : List va_E) (t : qM) (p s : Nat) (h : Int32), p < 50 ∧ s < 10 ∧ As = [.ref 46, .int (nI p), .int (nI s), .int h] ∧ ws = gW f t R ∧ k (some (.int (zb (kH t.2.2.2.1.2.2.1 p s h)))) ws
set_option maxHeartbeats 4000000 in
set_option maxRecDepth 100000 in
theorem m_Mo_has (l : Launch) : zz_M zz_CL l y_Mo_has (Cond.code y_Mo_has c_Mo_has 4 (some .boolean) :: zz_big) (zz_rm 1 20 1 6) (4, false, 0, 0, pt_Mo_has) := by
  refine zz_M_of (HOST := "CrewRules") (L := []) (sw := sw_Mo_has) (pg := pg_Mo_has) (th := th_Mo_has) (ini := false) (by decide +kernel) zz_static (fun h => nomatch h) (by decide) (by decide) ok_Mo_has zz_nil (fun pc E h => (nomatch h)) (zz_VC0 60 ?_)
  rintro As ws k x ⟨f, R, ⟨⟨th, tp, ln, aa, wr, pl⟩, ta, ⟨⟨td, le, ge, re, lg, ne⟩, ⟨nn, nk, nr, nx⟩, su, ⟨wa, ot, fm, tz⟩⟩, ⟨rk, mr, un, bg, bf⟩, kd, im⟩, p, s, h, hp, hs, rfl, rfl, hk⟩
  dsimp only at hk
  refine ⟨Nat.le_of_ble_eq_true rfl, ?_⟩
  have e1 : (10 : Int32) * nI p + nI s = nI (10 * p + s) := by
    show nI 10 * nI p + nI s = _
    rw [pk_mul, nI_add]
  have e2 : (nI (10 * p + s)).toNatClampNeg = 10 * p + s := nI_clamp (by omega)
  have i1 : vp_in ((10 : Int32) * nI p + nI s) 500 := by rw [e1]; exact zn_in (by omega) (by decide)
  refine And.intro i1 ?_
  refine And.intro (fun (d : un ((10 : Int32) * nI p + nI s).toNatClampNeg ≤ h) => ?_) (fun (d : ¬ un ((10 : Int32) * nI p + nI s).toNatClampNeg ≤ h) => ?_)
  · rw [e1, e2] at d
    rw [show kH un p s h = false by unfold kH; rw [decide_eq_true d]; rfl] at hk
    exact zz_eb (b := false) hk
  · rw [e1, e2] at d
    rw [show kH un p s h = true by unfold kH; rw [decide_eq_false d]; rfl] at hk
    exact zz_eb (b := true) hk
theorem recv_Mo_has : ∀ As ws k x, pt_Mo_has As ws k x → ∃ q As' fs, As = .ref q :: As' ∧ ws[q]? = some (.inr (7, fs)) := by
  rintro As ws k x ⟨f, R, t, p, s, h, hp, hs, rfl, rfl, hk⟩
  exact ⟨_, _, _, rfl, rfl⟩
def pt_Mo_serves : zz_PT := fun As ws k _ => ∃ (f : Nat → va_E) (R : List va_E) (t : qM) (p s : Nat) (h : Int32), p < 50 ∧ s < 10 ∧ wfS t.2.2.1 ∧ As = [.ref 46, .int (nI p), .int (nI s), .int h] ∧ ws = gW f t R ∧ k (some (.int (zb (kV t.2.2.2.1.2.2.1 t.2.2.1.2.2.2 p s h (t.2.2.1.2.2.1 0).toNatClampNeg)))) ws
def iMo_serves (f : Nat → va_E) (R : List va_E) (t : qM) (p s q : Nat) (h : Int32) (c : Nat) : Nat → zz_Q := fun z ls st ws nc ns => ∃ (j : Nat), (match c with
    | 0 => j ≤ q ∧ z = 2 * (q - j) + 1
    | _ => j < q ∧ z = 2 * (q - j)) ∧ ls = [some (.ref 46), some (.int (nI p)), some (.int (nI s)), some (.int h), some (.int (zb (kV t.2.2.2.1.2.2.1 t.2.2.1.2.2.2 p s h j))), some (.int (bd h)), some (.int (nI j)), none] ∧ st = (match c with
    | 0 => []
    | _ => [.int (zb (bw (bd h) (t.2.2.1.2.2.2.2.2.1 j) (t.2.2.1.2.2.2.2.2.2 j)))]) ∧ ws = gW f t R ∧ nc = 0 ∧ ns = 0
theorem kV_s {un : qA} {S : qA × qA × qA × qA} {p s : Nat} {h : Int32} {j : Nat} : kV un S p s h (j + 1) = (kV un S p s h j || kX un S p s h j) := by
  unfold kV
  rw [aN_s, Bool.or_assoc]
theorem zn_gt {x y : Int32} : ¬ x ≤ y ↔ y < x := by rw [zn_le, zn_lt]; omega
theorem zn_ge {x y : Int32} : ¬ x < y ↔ y ≤ x := by rw [zn_le, zn_lt]; omega
set_option maxHeartbeats 4000000 in
set_option maxRecDepth 100000 in
theorem m_Mo_serves (l : Launch) : zz_M zz_CL l y_Mo_serves (Cond.code y_Mo_serves c_Mo_serves 8 (some .boolean) :: zz_big) (zz_rm 2 43 1 6) (4, false, 0, 0, pt_Mo_serves) := by
  refine zz_M_of (HOST := "CrewRules") (L := [(0, 172, (4, false, 0, 0, pt_Mo_has))]) (sw := sw_Mo_serves) (pg := pg_Mo_serves) (th := th_Mo_serves) (ini := false) (by decide +kernel) zz_static (fun h => nomatch h) (by decide) (by decide) ok_Mo_serves (zz_cons (zz_ev_V (m_Mo_has l) yw_Mo_has yv_Mo_has lk_Mo_172 ⟨rfl, rfl, by decide, by decide⟩ (ci := 7) rfl recv_Mo_has) zz_nil) (fun pc E h => (nomatch h)) (zz_VCn 120 ?_)
  rintro As ws k x ⟨f, R, ⟨⟨th, tp, ln, aa, wr, pl⟩, ta, ⟨⟨td, le, ge, re, lg, ne⟩, ⟨nn, nk, nr, nx⟩, su, ⟨wa, ot, fm, tz⟩⟩, ⟨rk, mr, un, bg, bf⟩, kd, im⟩, p, s, h, hp, hs, hS, rfl, rfl, hk⟩
  obtain ⟨q, hq, hq2, hot⟩ := hS
  dsimp only at hk hq2 hot
  rw [hq2, nI_clamp (by omega)] at hk
  refine ⟨Nat.le_of_ble_eq_true rfl, [(18, [true, true, true, true, true, true, true, false], iMo_serves f R ((th, tp, ln, aa, wr, pl), ta, ((td, le, ge, re, lg, ne), (nn, nk, nr, nx), su, (wa, ot, fm, tz)), (rk, mr, un, bg, bf), kd, im) p s q h 0), (107, [true, true, true, true, true, true, true, false], iMo_serves f R ((th, tp, ln, aa, wr, pl), ta, ((td, le, ge, re, lg, ne), (nn, nk, nr, nx), su, (wa, ot, fm, tz)), (rk, mr, un, bg, bf), kd, im) p s q h 1)], zz_al1 ⟨rfl, ?_⟩ (zz_al1 ⟨rfl, ?_⟩ zz_al0), ?_⟩
  · rintro z ls st ws nc ns ⟨j, ⟨hj, rfl⟩, rfl, rfl, rfl, rfl, rfl⟩
    have ej : (nI j).toNatClampNeg = j := nI_clamp (by omega)
    refine And.intro (zn_in (i := 0) (by decide) (by decide)) ?_
    refine And.intro (fun (c1 : su 0 ≤ nI j) => ?_) (fun (c1 : ¬ su 0 ≤ nI j) => ?_)
    · rw [hq2] at c1
      have : j = q := by
        have := (nI_leI (by omega) (by omega)).mp c1
        omega
      subst this
      exact zz_eb hk
    · rw [hq2] at c1
      have hj2 : j < q := Nat.lt_of_not_le (fun z : q ≤ j => c1 (nI_le z (by omega)))
      have i1 : vp_in (nI j) 20 := zn_in (by omega) (by decide)
      refine And.intro i1 (And.intro i1 ?_)
      refine And.intro (fun (d : tz (nI j).toNatClampNeg < fm (nI j).toNatClampNeg) => ?_) (fun (d : ¬ tz (nI j).toNatClampNeg < fm (nI j).toNatClampNeg) => ?_)
      · rw [ej] at d
        have d : decide (fm j ≤ tz j) = false := decide_eq_false (fun z => by rw [zn_le] at z; rw [zn_lt] at d; omega)
        refine And.intro i1 ?_
        refine And.intro (fun (d2 : fm (nI j).toNatClampNeg ≤ bd h) => ?_) (fun (d2 : ¬ fm (nI j).toNatClampNeg ≤ bd h) => ?_)
        · rw [ej] at d2
          exact Exists.intro (2 * (q - j)) (And.intro (by show 2 * (q - j) < 2 * (q - j) + 1; omega) ⟨j, ⟨hj2, rfl⟩, rfl, (by dsimp only; rw [show bw (bd h) (fm j) (tz j) = true from (by unfold bw; rw [d, decide_eq_true d2]; try rfl)]; rfl), rfl, rfl, rfl⟩)
        · rw [ej] at d2
          refine And.intro i1 ?_
          refine And.intro (fun (d3 : tz (nI j).toNatClampNeg < bd h) => ?_) (fun (d3 : ¬ tz (nI j).toNatClampNeg < bd h) => ?_)
          · rw [ej] at d3
            exact Exists.intro (2 * (q - j)) (And.intro (by show 2 * (q - j) < 2 * (q - j) + 1; omega) ⟨j, ⟨hj2, rfl⟩, rfl, (by dsimp only; rw [show bw (bd h) (fm j) (tz j) = false from (by unfold bw; rw [d, decide_eq_false d2, decide_eq_false (zn_gt.mpr d3)]; try rfl)]; rfl), rfl, rfl, rfl⟩)
          · rw [ej] at d3
            exact Exists.intro (2 * (q - j)) (And.intro (by show 2 * (q - j) < 2 * (q - j) + 1; omega) ⟨j, ⟨hj2, rfl⟩, rfl, (by dsimp only; rw [show bw (bd h) (fm j) (tz j) = true from (by unfold bw; rw [d, decide_eq_false d2, decide_eq_true (zn_ge.mp d3)]; try rfl)]; rfl), rfl, rfl, rfl⟩)
      · rw [ej] at d
        have d : decide (fm j ≤ tz j) = true := decide_eq_true (zn_ge.mp d)
        refine And.intro i1 ?_
        refine And.intro (fun (d2 : bd h < fm (nI j).toNatClampNeg) => ?_) (fun (d2 : ¬ bd h < fm (nI j).toNatClampNeg) => ?_)
        · rw [ej] at d2
          exact Exists.intro (2 * (q - j)) (And.intro (by show 2 * (q - j) < 2 * (q - j) + 1; omega) ⟨j, ⟨hj2, rfl⟩, rfl, (by dsimp only; rw [show bw (bd h) (fm j) (tz j) = false from (by unfold bw; rw [d, decide_eq_false (zn_gt.mpr d2)]; try rfl)]; rfl), rfl, rfl, rfl⟩)
        · rw [ej] at d2
          refine And.intro i1 ?_
          refine And.intro (fun (d3 : tz (nI j).toNatClampNeg < bd h) => ?_) (fun (d3 : ¬ tz (nI j).toNatClampNeg < bd h) => ?_)
          · rw [ej] at d3
            exact Exists.intro (2 * (q - j)) (And.intro (by show 2 * (q - j) < 2 * (q - j) + 1; omega) ⟨j, ⟨hj2, rfl⟩, rfl, (by dsimp only; rw [show bw (bd h) (fm j) (tz j) = false from (by unfold bw; rw [d, decide_eq_true (zn_ge.mp d2), decide_eq_false (zn_gt.mpr d3)]; try rfl)]; rfl), rfl, rfl, rfl⟩)
          · rw [ej] at d3
            exact Exists.intro (2 * (q - j)) (And.intro (by show 2 * (q - j) < 2 * (q - j) + 1; omega) ⟨j, ⟨hj2, rfl⟩, rfl, (by dsimp only; rw [show bw (bd h) (fm j) (tz j) = true from (by unfold bw; rw [d, decide_eq_true (zn_ge.mp d2), decide_eq_true (zn_ge.mp d3)]; try rfl)]; rfl), rfl, rfl, rfl⟩)
  · rintro z ls st ws nc ns ⟨j, ⟨hj, rfl⟩, rfl, rfl, rfl, rfl, rfl⟩
    have ej : (nI j).toNatClampNeg = j := nI_clamp (by omega)
    have i1 : vp_in (nI j) 20 := zn_in (by omega) (by decide)
    dsimp only
    cases hv : kV un (wa, ot, fm, tz) p s h j with
    | true =>
      refine And.intro (fun _ => ?_) (fun (z : zb true = 0) => absurd z (by decide))
      exact Exists.intro (2 * (q - (j + 1)) + 1) (And.intro (by show 2 * (q - (j + 1)) + 1 < 2 * (q - j); omega) ⟨j + 1, ⟨hj, rfl⟩, (by dsimp only; rw [show kV un (wa, ot, fm, tz) p s h (j + 1) = true from (by rw [kV_s, hv, Bool.true_or]; try rfl), ← nI_1 j]; rfl), rfl, rfl, rfl, rfl⟩)
    | false =>
      refine And.intro (fun (z : ¬ zb false = 0) => absurd rfl z) (fun _ => ?_)
      refine And.intro i1 ?_
      refine And.intro (fun (d : ¬ wa (nI j).toNatClampNeg = nI s) => ?_) (fun (d : wa (nI j).toNatClampNeg = nI s) => ?_)
      · rw [ej] at d
        have dx : kX un (wa, ot, fm, tz) p s h j = false := by unfold kX; rw [decide_eq_false d]; rfl
        exact Exists.intro (2 * (q - (j + 1)) + 1) (And.intro (by show 2 * (q - (j + 1)) + 1 < 2 * (q - j); omega) ⟨j + 1, ⟨hj, rfl⟩, (by dsimp only; rw [show kV un (wa, ot, fm, tz) p s h (j + 1) = false from (by rw [kV_s, hv, dx]; try rfl), ← nI_1 j]; rfl), rfl, rfl, rfl, rfl⟩)
      · rw [ej] at d
        cases hb : bw (bd h) (fm j) (tz j) with
        | true =>
          refine And.intro (fun (z : zb true = 0) => absurd z (by decide)) (fun _ => ?_)
          obtain ⟨u, hu, hu2⟩ := hot j hj
          refine And.intro i1 ?_
          refine (And.intro (And.intro rfl (And.intro rfl (And.intro rfl (And.intro (by decide) (by decide))))) ?_)
          refine Exists.intro f (Exists.intro R (Exists.intro ((th, tp, ln, aa, wr, pl), ta, ((td, le, ge, re, lg, ne), (nn, nk, nr, nx), su, (wa, ot, fm, tz)), (rk, mr, un, bg, bf), kd, im) (Exists.intro p (Exists.intro u (Exists.intro h (And.intro hp (And.intro hu (And.intro (by show [Value.ref 46, .int (nI p), .int (ot (nI j).toNatClampNeg), .int h] = _; rw [ej, hu2]) (And.intro rfl (?_))))))))))
          cases hz : kH un p u h with
          | true =>
            refine And.intro (fun (z : zb true = 0) => absurd z (by decide)) (fun _ => ?_)
            have dx : kX un (wa, ot, fm, tz) p s h j = true := by unfold kX; dsimp only; rw [decide_eq_true d, hb, hu2, nI_clamp (by omega), hz]; rfl
            exact Exists.intro (2 * (q - (j + 1)) + 1) (And.intro (by show 2 * (q - (j + 1)) + 1 < 2 * (q - j); omega) ⟨j + 1, ⟨hj, rfl⟩, (by dsimp only; rw [show kV un (wa, ot, fm, tz) p s h (j + 1) = true from (by rw [kV_s, hv, dx]; try rfl), ← nI_1 j]; rfl), rfl, rfl, rfl, rfl⟩)
          | false =>
            refine And.intro (fun _ => ?_) (fun (z : ¬ zb false = 0) => absurd rfl z)
            have dx : kX un (wa, ot, fm, tz) p s h j = false := by unfold kX; dsimp only; rw [decide_eq_true d, hb, hu2, nI_clamp (by omega), hz]; rfl
            exact Exists.intro (2 * (q - (j + 1)) + 1) (And.intro (by show 2 * (q - (j + 1)) + 1 < 2 * (q - j); omega) ⟨j + 1, ⟨hj, rfl⟩, (by dsimp only; rw [show kV un (wa, ot, fm, tz) p s h (j + 1) = false from (by rw [kV_s, hv, dx]; try rfl), ← nI_1 j]; rfl), rfl, rfl, rfl, rfl⟩)
        | false =>
          refine And.intro (fun _ => ?_) (fun (z : ¬ zb false = 0) => absurd rfl z)
          have dx : kX un (wa, ot, fm, tz) p s h j = false := by unfold kX; dsimp only; rw [decide_eq_true d, hb]; rfl
          exact Exists.intro (2 * (q - (j + 1)) + 1) (And.intro (by show 2 * (q - (j + 1)) + 1 < 2 * (q - j); omega) ⟨j + 1, ⟨hj, rfl⟩, (by dsimp only; rw [show kV un (wa, ot, fm, tz) p s h (j + 1) = false from (by rw [kV_s, hv, dx]; try rfl), ← nI_1 j]; rfl), rfl, rfl, rfl, rfl⟩)
  · skip
    refine (And.intro (And.intro rfl (And.intro rfl (And.intro rfl (And.intro (by decide) (by decide))))) ?_)
    refine Exists.intro f (Exists.intro R (Exists.intro ((th, tp, ln, aa, wr, pl), ta, ((td, le, ge, re, lg, ne), (nn, nk, nr, nx), su, (wa, ot, fm, tz)), (rk, mr, un, bg, bf), kd, im) (Exists.intro p (Exists.intro s (Exists.intro h (And.intro hp (And.intro hs (And.intro rfl (And.intro rfl (?_))))))))))
    refine And.intro (by decide) ?_
    exact Exists.intro (2 * (q - 0) + 1) (And.intro trivial ⟨0, ⟨Nat.zero_le _, rfl⟩, (by dsimp only; rw [show kV un (wa, ot, fm, tz) p s h 0 = kH un p s h from Bool.or_false _]; rfl), rfl, rfl, rfl, rfl⟩)
theorem recv_Mo_serves : ∀ As ws k x, pt_Mo_serves As ws k x → ∃ q As' fs, As = .ref q :: As' ∧ ws[q]? = some (.inr (7, fs)) := by
  rintro As ws k x ⟨f, R, t, p, s, h, hp, hs, hS, rfl, rfl, hk⟩
  exact ⟨_, _, _, rfl, rfl⟩
def pt_Mo_servers : zz_PT := fun As ws k _ => ∃ (f : Nat → va_E) (R : List va_E) (t : qM) (cc : Option Nat) (s : Nat) (r h : Int32), (∀ c, cc = some c → c < 20) ∧ s < 10 ∧ wfS t.2.2.1 ∧ As = [.ref 46, .int (rO cc), .int (nI s), .int r, .int h] ∧ ws = gW f t R ∧ k (some (.int (nI (kE t.2.2.2.2.2 t.2.2.2.1 t.2.2.1 cc s r h)))) ws
set_option maxHeartbeats 4000000 in
set_option maxRecDepth 100000 in
theorem m_Mo_servers (l : Launch) : zz_M zz_CL l y_Mo_servers (Cond.code y_Mo_servers c_Mo_servers 8 (some .int) :: zz_big) (zz_rm 3 70 1 6) (5, false, 0, 0, pt_Mo_servers) := by
  refine zz_M_of (HOST := "CrewRules") (L := [(0, 159, (3, false, 0, 0, pt_Mo_isFull)), (0, 175, (4, false, 0, 0, pt_Mo_serves))]) (sw := sw_Mo_servers) (pg := pg_Mo_servers) (th := th_Mo_servers) (ini := false) (by decide +kernel) zz_static (fun h => nomatch h) (by decide) (by decide) ok_Mo_servers (zz_cons (zz_ev_V (m_Mo_isFull l) yw_Mo_isFull yv_Mo_isFull lk_Mo_159 ⟨rfl, rfl, by decide, by decide⟩ (ci := 7) rfl recv_Mo_isFull) (zz_cons (zz_ev_V (m_Mo_serves l) yw_Mo_serves yv_Mo_serves lk_Mo_175 ⟨rfl, rfl, by decide, by decide⟩ (ci := 7) rfl recv_Mo_serves) zz_nil)) (fun pc E h => (nomatch h)) (zz_VC1 80 6 [true, true, true, true, true, true, true, false] rfl ?_)
  rintro As ws k x ⟨f, R, ⟨⟨th, tp, ln, aa, wr, pl⟩, ta, ⟨⟨td, le, ge, re, lg, ne⟩, ⟨nn, nk, nr, nx⟩, su, ⟨wa, ot, fm, tz⟩⟩, ⟨rk, mr, un, bg, bf⟩, kd, im⟩, cc, s, r, h, hcc, hs, hS, rfl, rfl, hk⟩
  unfold kE at hk
  dsimp only at hk
  cases cc with
  | none =>
    refine ⟨Nat.le_of_ble_eq_true rfl, fun z ls st ws nc ns => ∃ (j : Nat), j ≤ 50 ∧ z = 50 - j ∧ ls = [some (.ref 46), some (.int (rO none)), some (.int (nI s)), some (.int r), some (.int h), some (.int (nI (nN (kG im (rk, mr, un, bg, bf) (wa, ot, fm, tz) (su 0).toNatClampNeg none s r h) j))), some (.int (nI j)), none] ∧ st = [] ∧ ws = gW f ((th, tp, ln, aa, wr, pl), ta, ((td, le, ge, re, lg, ne), (nn, nk, nr, nx), su, (wa, ot, fm, tz)), (rk, mr, un, bg, bf), kd, im) R ∧ nc = 0 ∧ ns = 0, ?_, ?_⟩
    · rintro z ls st ws nc ns ⟨j, hj, rfl, rfl, rfl, rfl, rfl, rfl⟩
      refine And.intro (fun (c1 : 50 ≤ nI j) => ?_) (fun (c1 : ¬ 50 ≤ nI j) => ?_)
      · have : j = 50 := by
          have := (nI_leI (a := 50) (by decide) (by omega)).mp c1
          omega
        subst this
        exact zz_e0 hk
      · have hj2 : j < 50 := Nat.lt_of_not_le (fun z : 50 ≤ j => c1 (nI_le z (by omega)))
        have ej : (nI j).toNatClampNeg = j := nI_clamp (by omega)
        refine And.intro (fun (z : (0 : Int32) ≤ rO none) => absurd z (by decide)) (fun _ => ?_)
        refine And.intro (zn_in hj2 (by decide)) ?_
        refine And.intro (by decide) ?_
        refine And.intro (fun (d4 : mr (nI j).toNatClampNeg - mr (nI j).toNatClampNeg / 2 * 2 = 1) => ?_) (fun (d4 : ¬ mr (nI j).toNatClampNeg - mr (nI j).toNatClampNeg / 2 * 2 = 1) => ?_)
        · rw [ej] at d4
          have hy : kY im mr none j = false := by unfold kY lr; rw [decide_eq_true d4]; rfl
          refine And.intro (fun _ => ?_) (fun (z : ¬ zb false = 0) => absurd rfl z)
          have dg : (kG im (rk, mr, un, bg, bf) (wa, ot, fm, tz) (su 0).toNatClampNeg none s r h) j = false := by unfold kG; dsimp only; rw [hy]; exact Bool.false_and _
          exact Exists.intro (50 - (j + 1)) (And.intro (by show 50 - (j + 1) < 50 - j; omega) ⟨j + 1, hj2, rfl, (by rw [nN_f (f := (kG im (rk, mr, un, bg, bf) (wa, ot, fm, tz) (su 0).toNatClampNeg none s r h)) (j := j) dg, Int32.add_zero, ← nI_1 j]; rfl), rfl, rfl, rfl, rfl⟩)
        · rw [ej] at d4
          have hy : kY im mr none j = true := by unfold kY lr; rw [decide_eq_false d4]; rfl
          refine And.intro (fun (z : zb true = 0) => absurd z (by decide)) (fun _ => ?_)
          refine And.intro (zn_in hj2 (by decide)) ?_
          refine And.intro (fun (d5 : rk (nI j).toNatClampNeg < r) => ?_) (fun (d5 : ¬ rk (nI j).toNatClampNeg < r) => ?_)
          · rw [ej] at d5
            have dg : (kG im (rk, mr, un, bg, bf) (wa, ot, fm, tz) (su 0).toNatClampNeg none s r h) j = false := by unfold kG; dsimp only; rw [decide_eq_true d5]; exact Bool.and_false _
            exact Exists.intro (50 - (j + 1)) (And.intro (by show 50 - (j + 1) < 50 - j; omega) ⟨j + 1, hj2, rfl, (by rw [nN_f (f := (kG im (rk, mr, un, bg, bf) (wa, ot, fm, tz) (su 0).toNatClampNeg none s r h)) (j := j) dg, Int32.add_zero, ← nI_1 j]; rfl), rfl, rfl, rfl, rfl⟩)
          · rw [ej] at d5
            refine (And.intro (And.intro rfl (And.intro rfl (And.intro rfl (And.intro (by decide) (by decide))))) ?_)
            refine Exists.intro f (Exists.intro R (Exists.intro ((th, tp, ln, aa, wr, pl), ta, ((td, le, ge, re, lg, ne), (nn, nk, nr, nx), su, (wa, ot, fm, tz)), (rk, mr, un, bg, bf), kd, im) (Exists.intro j (Exists.intro s (Exists.intro h (And.intro hj2 (And.intro hs (And.intro hS (And.intro rfl (And.intro rfl (?_)))))))))))
            cases hv : kV un (wa, ot, fm, tz) j s h (su 0).toNatClampNeg with
            | true =>
              refine And.intro (fun (z : zb true = 0) => absurd z (by decide)) (fun _ => ?_)
              have dg : (kG im (rk, mr, un, bg, bf) (wa, ot, fm, tz) (su 0).toNatClampNeg none s r h) j = true := by unfold kG; dsimp only; rw [hy, decide_eq_false d5, hv]; rfl
              exact Exists.intro (50 - (j + 1)) (And.intro (by show 50 - (j + 1) < 50 - j; omega) ⟨j + 1, hj2, rfl, (by rw [nN_t (f := (kG im (rk, mr, un, bg, bf) (wa, ot, fm, tz) (su 0).toNatClampNeg none s r h)) (j := j) dg, ← nI_1 (nN (kG im (rk, mr, un, bg, bf) (wa, ot, fm, tz) (su 0).toNatClampNeg none s r h) j), ← nI_1 j]; rfl), rfl, rfl, rfl, rfl⟩)
            | false =>
              refine And.intro (fun _ => ?_) (fun (z : ¬ zb false = 0) => absurd rfl z)
              have dg : (kG im (rk, mr, un, bg, bf) (wa, ot, fm, tz) (su 0).toNatClampNeg none s r h) j = false := by unfold kG; dsimp only; rw [hy, decide_eq_false d5, hv]; rfl
              exact Exists.intro (50 - (j + 1)) (And.intro (by show 50 - (j + 1) < 50 - j; omega) ⟨j + 1, hj2, rfl, (by rw [nN_f (f := (kG im (rk, mr, un, bg, bf) (wa, ot, fm, tz) (su 0).toNatClampNeg none s r h)) (j := j) dg, Int32.add_zero, ← nI_1 j]; rfl), rfl, rfl, rfl, rfl⟩)
    · exact Exists.intro 50 (And.intro trivial ⟨0, by decide, rfl, rfl, rfl, rfl, rfl, rfl⟩)
  | some c =>
    have hc := hcc c rfl
    refine ⟨Nat.le_of_ble_eq_true rfl, fun z ls st ws nc ns => ∃ (j : Nat), j ≤ 50 ∧ z = 50 - j ∧ ls = [some (.ref 46), some (.int (rO (some c))), some (.int (nI s)), some (.int r), some (.int h), some (.int (nI (nN (kG im (rk, mr, un, bg, bf) (wa, ot, fm, tz) (su 0).toNatClampNeg (some c) s r h) j))), some (.int (nI j)), none] ∧ st = [] ∧ ws = gW f ((th, tp, ln, aa, wr, pl), ta, ((td, le, ge, re, lg, ne), (nn, nk, nr, nx), su, (wa, ot, fm, tz)), (rk, mr, un, bg, bf), kd, im) R ∧ nc = 0 ∧ ns = 0, ?_, ?_⟩
    · rintro z ls st ws nc ns ⟨j, hj, rfl, rfl, rfl, rfl, rfl, rfl⟩
      refine And.intro (fun (c1 : 50 ≤ nI j) => ?_) (fun (c1 : ¬ 50 ≤ nI j) => ?_)
      · have : j = 50 := by
          have := (nI_leI (a := 50) (by decide) (by omega)).mp c1
          omega
        subst this
        exact zz_e0 hk
      · have hj2 : j < 50 := Nat.lt_of_not_le (fun z : 50 ≤ j => c1 (nI_le z (by omega)))
        have ej : (nI j).toNatClampNeg = j := nI_clamp (by omega)
        refine And.intro (fun _ => ?_) (fun (z : ¬ (0 : Int32) ≤ rO (some c)) => absurd (nI_le (a := 0) (Nat.zero_le _) (by omega)) z)
        refine (And.intro (And.intro rfl (And.intro rfl (And.intro rfl (And.intro (by decide) (by decide))))) ?_)
        refine Exists.intro f (Exists.intro R (Exists.intro ((th, tp, ln, aa, wr, pl), ta, ((td, le, ge, re, lg, ne), (nn, nk, nr, nx), su, (wa, ot, fm, tz)), (rk, mr, un, bg, bf), kd, im) (Exists.intro c (Exists.intro j (And.intro hc (And.intro hj2 (And.intro rfl (And.intro rfl (?_)))))))))
        cases hf : kF im mr c j with
        | true =>
          refine And.intro (fun (z : zb true = 0) => absurd z (by decide)) (fun _ => ?_)
          have hy : kY im mr (some c) j = true := hf
          refine And.intro (zn_in hj2 (by decide)) ?_
          refine And.intro (fun (d5 : rk (nI j).toNatClampNeg < r) => ?_) (fun (d5 : ¬ rk (nI j).toNatClampNeg < r) => ?_)
          · rw [ej] at d5
            have dg : (kG im (rk, mr, un, bg, bf) (wa, ot, fm, tz) (su 0).toNatClampNeg (some c) s r h) j = false := by unfold kG; dsimp only; rw [decide_eq_true d5]; exact Bool.and_false _
            exact Exists.intro (50 - (j + 1)) (And.intro (by show 50 - (j + 1) < 50 - j; omega) ⟨j + 1, hj2, rfl, (by rw [nN_f (f := (kG im (rk, mr, un, bg, bf) (wa, ot, fm, tz) (su 0).toNatClampNeg (some c) s r h)) (j := j) dg, Int32.add_zero, ← nI_1 j]; rfl), rfl, rfl, rfl, rfl⟩)
          · rw [ej] at d5
            refine (And.intro (And.intro rfl (And.intro rfl (And.intro rfl (And.intro (by decide) (by decide))))) ?_)
            refine Exists.intro f (Exists.intro R (Exists.intro ((th, tp, ln, aa, wr, pl), ta, ((td, le, ge, re, lg, ne), (nn, nk, nr, nx), su, (wa, ot, fm, tz)), (rk, mr, un, bg, bf), kd, im) (Exists.intro j (Exists.intro s (Exists.intro h (And.intro hj2 (And.intro hs (And.intro hS (And.intro rfl (And.intro rfl (?_)))))))))))
            cases hv : kV un (wa, ot, fm, tz) j s h (su 0).toNatClampNeg with
            | true =>
              refine And.intro (fun (z : zb true = 0) => absurd z (by decide)) (fun _ => ?_)
              have dg : (kG im (rk, mr, un, bg, bf) (wa, ot, fm, tz) (su 0).toNatClampNeg (some c) s r h) j = true := by unfold kG; dsimp only; rw [hy, decide_eq_false d5, hv]; rfl
              exact Exists.intro (50 - (j + 1)) (And.intro (by show 50 - (j + 1) < 50 - j; omega) ⟨j + 1, hj2, rfl, (by rw [nN_t (f := (kG im (rk, mr, un, bg, bf) (wa, ot, fm, tz) (su 0).toNatClampNeg (some c) s r h)) (j := j) dg, ← nI_1 (nN (kG im (rk, mr, un, bg, bf) (wa, ot, fm, tz) (su 0).toNatClampNeg (some c) s r h) j), ← nI_1 j]; rfl), rfl, rfl, rfl, rfl⟩)
            | false =>
              refine And.intro (fun _ => ?_) (fun (z : ¬ zb false = 0) => absurd rfl z)
              have dg : (kG im (rk, mr, un, bg, bf) (wa, ot, fm, tz) (su 0).toNatClampNeg (some c) s r h) j = false := by unfold kG; dsimp only; rw [hy, decide_eq_false d5, hv]; rfl
              exact Exists.intro (50 - (j + 1)) (And.intro (by show 50 - (j + 1) < 50 - j; omega) ⟨j + 1, hj2, rfl, (by rw [nN_f (f := (kG im (rk, mr, un, bg, bf) (wa, ot, fm, tz) (su 0).toNatClampNeg (some c) s r h)) (j := j) dg, Int32.add_zero, ← nI_1 j]; rfl), rfl, rfl, rfl, rfl⟩)
        | false =>
          refine And.intro (fun _ => ?_) (fun (z : ¬ zb false = 0) => absurd rfl z)
          have hy : kY im mr (some c) j = false := hf
          have dg : (kG im (rk, mr, un, bg, bf) (wa, ot, fm, tz) (su 0).toNatClampNeg (some c) s r h) j = false := by unfold kG; dsimp only; rw [hy]; exact Bool.false_and _
          exact Exists.intro (50 - (j + 1)) (And.intro (by show 50 - (j + 1) < 50 - j; omega) ⟨j + 1, hj2, rfl, (by rw [nN_f (f := (kG im (rk, mr, un, bg, bf) (wa, ot, fm, tz) (su 0).toNatClampNeg (some c) s r h)) (j := j) dg, Int32.add_zero, ← nI_1 j]; rfl), rfl, rfl, rfl, rfl⟩)
    · exact Exists.intro 50 (And.intro trivial ⟨0, by decide, rfl, rfl, rfl, rfl, rfl, rfl⟩)
theorem recv_Mo_servers : ∀ As ws k x, pt_Mo_servers As ws k x → ∃ q As' fs, As = .ref q :: As' ∧ ws[q]? = some (.inr (7, fs)) := by
  rintro As ws k x ⟨f, R, t, cc, s, r, h, hcc, hs, hS, rfl, rfl, hk⟩
  exact ⟨_, _, _, rfl, rfl⟩
def pt_Mo_having : zz_PT := fun As ws k _ => ∃ (f : Nat → va_E) (R : List va_E) (t : qM) (c j r h : Int32), wfS t.2.2.1 ∧ As = [.ref 46, .int c, .int j, .int r, .int h] ∧ ws = gW f t R ∧ kz (oHaving c j r h) (k (some (.int 0)) (gW f (uTh t (nI (oHaving c j r h))) R)) (k (some (.int (nI (kE t.2.2.2.2.2 t.2.2.2.1 t.2.2.1 (some c.toNatClampNeg) j.toNatClampNeg r h)))) (gW f (uTh t 0) R))
set_option maxHeartbeats 4000000 in
set_option maxRecDepth 100000 in
theorem m_Mo_having (l : Launch) : zz_M zz_CL l y_Mo_having (Cond.code y_Mo_having c_Mo_having 5 (some .int) :: zz_big) (zz_rm 4 97 1 6) (5, false, 0, 0, pt_Mo_having) := by
  refine zz_M_of (HOST := "CrewRules") (L := [(1, 149, (1, false, 0, 0, pt_Mo_isCrew)), (1, 87, (3, false, 0, 0, pt_Mo_between)), (1, 146, (1, false, 0, 0, pt_Mo_isHour)), (0, 94, (4, false, 0, 0, pt_Mo_throwing)), (0, 178, (5, false, 0, 0, pt_Mo_servers))]) (sw := sw_Mo_having) (pg := pg_Mo_having) (th := th_Mo_having) (ini := false) (by decide +kernel) zz_static (fun h => nomatch h) (by decide) (by decide) ok_Mo_having (zz_cons (zz_ev_S (m_Mo_isCrew l) yw_Mo_isCrew ys_Mo_isCrew lk_Mo_149 ⟨rfl, rfl, by decide, by decide⟩) (zz_cons (zz_ev_S (m_Mo_between l) yw_Mo_between ys_Mo_between lk_Mo_87 ⟨rfl, rfl, by decide, by decide⟩) (zz_cons (zz_ev_S (m_Mo_isHour l) yw_Mo_isHour ys_Mo_isHour lk_Mo_146 ⟨rfl, rfl, by decide, by decide⟩) (zz_cons (zz_ev_V (m_Mo_throwing l) yw_Mo_throwing yv_Mo_throwing lk_Mo_94 ⟨rfl, rfl, by decide, by decide⟩ (ci := 7) rfl recv_Mo_throwing) (zz_cons (zz_ev_V (m_Mo_servers l) yw_Mo_servers yv_Mo_servers lk_Mo_178 ⟨rfl, rfl, by decide, by decide⟩ (ci := 7) rfl recv_Mo_servers) zz_nil))))) (fun pc E h => (nomatch h)) (zz_VC0 80 ?_)
  rintro As ws k x ⟨f, R, ⟨⟨th, tp, ln, aa, wr, pl⟩, ta, ⟨⟨td, le, ge, re, lg, ne⟩, ⟨nn, nk, nr, nx⟩, su, ⟨wa, ot, fm, tz⟩⟩, ⟨rk, mr, un, bg, bf⟩, kd, im⟩, c, j, r, h, hS, rfl, rfl, hk⟩
  unfold oHaving at hk
  dsimp only at hk
  refine ⟨Nat.le_of_ble_eq_true rfl, ?_⟩
  refine (And.intro (And.intro rfl (And.intro rfl (And.intro rfl (And.intro (by decide) (by decide))))) ?_)
  refine Exists.intro c (And.intro rfl (?_))
  cases c1 : iR 0 19 c with
  | true =>
    refine And.intro (fun (z : zb true = 0) => absurd z (by decide)) (fun _ => ?_)
    refine (And.intro (And.intro rfl (And.intro rfl (And.intro rfl (And.intro (by decide) (by decide))))) ?_)
    refine Exists.intro j (Exists.intro 0 (Exists.intro 9 (And.intro rfl (?_))))
    cases c2 : iR 0 9 j with
    | true =>
      refine And.intro (fun _ => ?_) (fun (z : zb true = 0) => absurd z (by decide))
      refine (And.intro (And.intro rfl (And.intro rfl (And.intro rfl (And.intro (by decide) (by decide))))) ?_)
      refine Exists.intro h (And.intro rfl (?_))
      cases c3 : iR 0 99999 h with
      | true =>
        refine And.intro (fun (z : zb true = 0) => absurd z (by decide)) (fun _ => ?_)
        refine (And.intro (And.intro rfl (And.intro rfl (And.intro rfl (And.intro (by decide) (by decide))))) ?_)
        refine Exists.intro r (Exists.intro 0 (Exists.intro 9 (And.intro rfl (?_))))
        cases c4 : iR 0 9 r with
        | true =>
          refine And.intro (fun _ => ?_) (fun (z : zb true = 0) => absurd z (by decide))
          obtain ⟨c, hc, rfl⟩ := iR_n (hi := 19) (by decide) c1
          obtain ⟨j, hj, rfl⟩ := iR_n (hi := 9) (by decide) c2
          rw [c1, c2, c3, c4] at hk
          have hk := hk.1 rfl
          rw [nI_clamp (by omega), nI_clamp (by omega)] at hk
          refine (And.intro (And.intro rfl (And.intro rfl (And.intro rfl (And.intro (by decide) (by decide))))) ?_)
          refine Exists.intro f (Exists.intro R (Exists.intro ((th, tp, ln, aa, wr, pl), ta, ((td, le, ge, re, lg, ne), (nn, nk, nr, nx), su, (wa, ot, fm, tz)), (rk, mr, un, bg, bf), kd, im) (Exists.intro false (Exists.intro false (Exists.intro false (And.intro rfl (And.intro rfl (?_))))))))
          refine And.intro (fun _ => ?_) (fun (z : ¬ zb false = 0) => absurd rfl z)
          refine (And.intro (And.intro rfl (And.intro rfl (And.intro rfl (And.intro (by decide) (by decide))))) ?_)
          refine Exists.intro f (Exists.intro R (Exists.intro (((nI 0), tp, ln, aa, wr, pl), ta, ((td, le, ge, re, lg, ne), (nn, nk, nr, nx), su, (wa, ot, fm, tz)), (rk, mr, un, bg, bf), kd, im) (Exists.intro (some c) (Exists.intro j (Exists.intro r (Exists.intro h (And.intro (fun x hx => by cases hx; omega) (And.intro (by omega) (And.intro hS (And.intro rfl (And.intro rfl (?_))))))))))))
          exact zz_e0 hk
        | false =>
          refine And.intro (fun (z : ¬ zb false = 0) => absurd rfl z) (fun _ => ?_)
          rw [c1, c2, c3, c4] at hk
          have hk := hk.2 (show ¬ (2 : Nat) = 0 by decide)
          refine (And.intro (And.intro rfl (And.intro rfl (And.intro rfl (And.intro (by decide) (by decide))))) ?_)
          refine Exists.intro f (Exists.intro R (Exists.intro ((th, tp, ln, aa, wr, pl), ta, ((td, le, ge, re, lg, ne), (nn, nk, nr, nx), su, (wa, ot, fm, tz)), (rk, mr, un, bg, bf), kd, im) (Exists.intro false (Exists.intro true (Exists.intro false (And.intro rfl (And.intro rfl (?_))))))))
          refine And.intro (fun (z : zb true = 0) => absurd z (by decide)) (fun _ => ?_)
          exact zz_e0 hk
      | false =>
        refine And.intro (fun _ => ?_) (fun (z : ¬ zb false = 0) => absurd rfl z)
        rw [c1, c2, c3] at hk
        have hk := hk.2 (show ¬ (2 : Nat) = 0 by decide)
        refine (And.intro (And.intro rfl (And.intro rfl (And.intro rfl (And.intro (by decide) (by decide))))) ?_)
        refine Exists.intro f (Exists.intro R (Exists.intro ((th, tp, ln, aa, wr, pl), ta, ((td, le, ge, re, lg, ne), (nn, nk, nr, nx), su, (wa, ot, fm, tz)), (rk, mr, un, bg, bf), kd, im) (Exists.intro false (Exists.intro true (Exists.intro false (And.intro rfl (And.intro rfl (?_))))))))
        refine And.intro (fun (z : zb true = 0) => absurd z (by decide)) (fun _ => ?_)
        exact zz_e0 hk
    | false =>
      refine And.intro (fun (z : ¬ zb false = 0) => absurd rfl z) (fun _ => ?_)
      refine (And.intro (And.intro rfl (And.intro rfl (And.intro rfl (And.intro (by decide) (by decide))))) ?_)
      refine Exists.intro h (And.intro rfl (?_))
      cases c3 : iR 0 99999 h with
      | true =>
        refine And.intro (fun (z : zb true = 0) => absurd z (by decide)) (fun _ => ?_)
        refine (And.intro (And.intro rfl (And.intro rfl (And.intro rfl (And.intro (by decide) (by decide))))) ?_)
        refine Exists.intro r (Exists.intro 0 (Exists.intro 9 (And.intro rfl (?_))))
        cases c4 : iR 0 9 r with
        | true =>
          refine And.intro (fun _ => ?_) (fun (z : zb true = 0) => absurd z (by decide))
          rw [c1, c2, c3, c4] at hk
          have hk := hk.2 (show ¬ (1 : Nat) = 0 by decide)
          refine (And.intro (And.intro rfl (And.intro rfl (And.intro rfl (And.intro (by decide) (by decide))))) ?_)
          refine Exists.intro f (Exists.intro R (Exists.intro ((th, tp, ln, aa, wr, pl), ta, ((td, le, ge, re, lg, ne), (nn, nk, nr, nx), su, (wa, ot, fm, tz)), (rk, mr, un, bg, bf), kd, im) (Exists.intro true (Exists.intro false (Exists.intro false (And.intro rfl (And.intro rfl (?_))))))))
          refine And.intro (fun (z : zb true = 0) => absurd z (by decide)) (fun _ => ?_)
          exact zz_e0 hk
        | false =>
          refine And.intro (fun (z : ¬ zb false = 0) => absurd rfl z) (fun _ => ?_)
          rw [c1, c2, c3, c4] at hk
          have hk := hk.2 (show ¬ (1 : Nat) = 0 by decide)
          refine (And.intro (And.intro rfl (And.intro rfl (And.intro rfl (And.intro (by decide) (by decide))))) ?_)
          refine Exists.intro f (Exists.intro R (Exists.intro ((th, tp, ln, aa, wr, pl), ta, ((td, le, ge, re, lg, ne), (nn, nk, nr, nx), su, (wa, ot, fm, tz)), (rk, mr, un, bg, bf), kd, im) (Exists.intro true (Exists.intro true (Exists.intro false (And.intro rfl (And.intro rfl (?_))))))))
          refine And.intro (fun (z : zb true = 0) => absurd z (by decide)) (fun _ => ?_)
          exact zz_e0 hk
      | false =>
        refine And.intro (fun _ => ?_) (fun (z : ¬ zb false = 0) => absurd rfl z)
        rw [c1, c2, c3] at hk
        have hk := hk.2 (show ¬ (1 : Nat) = 0 by decide)
        refine (And.intro (And.intro rfl (And.intro rfl (And.intro rfl (And.intro (by decide) (by decide))))) ?_)
        refine Exists.intro f (Exists.intro R (Exists.intro ((th, tp, ln, aa, wr, pl), ta, ((td, le, ge, re, lg, ne), (nn, nk, nr, nx), su, (wa, ot, fm, tz)), (rk, mr, un, bg, bf), kd, im) (Exists.intro true (Exists.intro true (Exists.intro false (And.intro rfl (And.intro rfl (?_))))))))
        refine And.intro (fun (z : zb true = 0) => absurd z (by decide)) (fun _ => ?_)
        exact zz_e0 hk
  | false =>
    refine And.intro (fun _ => ?_) (fun (z : ¬ zb false = 0) => absurd rfl z)
    refine (And.intro (And.intro rfl (And.intro rfl (And.intro rfl (And.intro (by decide) (by decide))))) ?_)
    refine Exists.intro h (And.intro rfl (?_))
    cases c3 : iR 0 99999 h with
    | true =>
      refine And.intro (fun (z : zb true = 0) => absurd z (by decide)) (fun _ => ?_)
      refine (And.intro (And.intro rfl (And.intro rfl (And.intro rfl (And.intro (by decide) (by decide))))) ?_)
      refine Exists.intro r (Exists.intro 0 (Exists.intro 9 (And.intro rfl (?_))))
      cases c4 : iR 0 9 r with
      | true =>
        refine And.intro (fun _ => ?_) (fun (z : zb true = 0) => absurd z (by decide))
        rw [c1, c3, c4] at hk
        have hk := hk.2 (show ¬ (1 : Nat) = 0 by decide)
        refine (And.intro (And.intro rfl (And.intro rfl (And.intro rfl (And.intro (by decide) (by decide))))) ?_)
        refine Exists.intro f (Exists.intro R (Exists.intro ((th, tp, ln, aa, wr, pl), ta, ((td, le, ge, re, lg, ne), (nn, nk, nr, nx), su, (wa, ot, fm, tz)), (rk, mr, un, bg, bf), kd, im) (Exists.intro true (Exists.intro false (Exists.intro false (And.intro rfl (And.intro rfl (?_))))))))
        refine And.intro (fun (z : zb true = 0) => absurd z (by decide)) (fun _ => ?_)
        exact zz_e0 hk
      | false =>
        refine And.intro (fun (z : ¬ zb false = 0) => absurd rfl z) (fun _ => ?_)
        rw [c1, c3, c4] at hk
        have hk := hk.2 (show ¬ (1 : Nat) = 0 by decide)
        refine (And.intro (And.intro rfl (And.intro rfl (And.intro rfl (And.intro (by decide) (by decide))))) ?_)
        refine Exists.intro f (Exists.intro R (Exists.intro ((th, tp, ln, aa, wr, pl), ta, ((td, le, ge, re, lg, ne), (nn, nk, nr, nx), su, (wa, ot, fm, tz)), (rk, mr, un, bg, bf), kd, im) (Exists.intro true (Exists.intro true (Exists.intro false (And.intro rfl (And.intro rfl (?_))))))))
        refine And.intro (fun (z : zb true = 0) => absurd z (by decide)) (fun _ => ?_)
        exact zz_e0 hk
    | false =>
      refine And.intro (fun _ => ?_) (fun (z : ¬ zb false = 0) => absurd rfl z)
      rw [c1, c3] at hk
      have hk := hk.2 (show ¬ (1 : Nat) = 0 by decide)
      refine (And.intro (And.intro rfl (And.intro rfl (And.intro rfl (And.intro (by decide) (by decide))))) ?_)
      refine Exists.intro f (Exists.intro R (Exists.intro ((th, tp, ln, aa, wr, pl), ta, ((td, le, ge, re, lg, ne), (nn, nk, nr, nx), su, (wa, ot, fm, tz)), (rk, mr, un, bg, bf), kd, im) (Exists.intro true (Exists.intro true (Exists.intro false (And.intro rfl (And.intro rfl (?_))))))))
      refine And.intro (fun (z : zb true = 0) => absurd z (by decide)) (fun _ => ?_)
      exact zz_e0 hk
theorem recv_Mo_having : ∀ As ws k x, pt_Mo_having As ws k x → ∃ q As' fs, As = .ref q :: As' ∧ ws[q]? = some (.inr (7, fs)) := by
  rintro As ws k x ⟨f, R, t, c, j, r, h, hS, rfl, rfl, hk⟩
  exact ⟨_, _, _, rfl, rfl⟩
def kB (rk : qA) (F : Nat → Bool) : Nat → Option Nat
  | 0 => none
  | j + 1 => bif F j then (match kB rk F j with
    | none => some j
    | some q => bif decide (rk j ≤ rk q) then some q else some j) else kB rk F j
theorem kB_lt {rk : qA} {F : Nat → Bool} : ∀ {j q : Nat}, kB rk F j = some q → q < j := by
  intro j
  induction j with
  | zero => intro q h; cases h
  | succ j ih =>
    intro q h
    unfold kB at h
    cases hF : F j with
    | false =>
      rw [hF] at h
      have := ih h
      omega
    | true =>
      rw [hF] at h
      dsimp only [cond_true] at h
      cases hb : kB rk F j with
      | none => rw [hb] at h; cases h; omega
      | some q' =>
        have := ih hb
        rw [hb] at h
        dsimp only at h
        cases hd : decide (rk j ≤ rk q') with
        | true => rw [hd] at h; cases h; omega
        | false => rw [hd] at h; cases h; omega
theorem kB_f {rk : qA} {F : Nat → Bool} {j : Nat} (h : F j = false) : kB rk F (j + 1) = kB rk F j := by
  show (bif F j then _ else kB rk F j) = _
  rw [h]; rfl
theorem kB_n {rk : qA} {F : Nat → Bool} {j : Nat} (h : F j = true) (hb : kB rk F j = none) : kB rk F (j + 1) = some j := by
  show (bif F j then (match kB rk F j with
    | none => some j
    | some q => bif decide (rk j ≤ rk q) then some q else some j) else kB rk F j) = _
  rw [h, hb]; rfl
theorem kB_le {rk : qA} {F : Nat → Bool} {j q : Nat} (h : F j = true) (hb : kB rk F j = some q) (d : rk j ≤ rk q) : kB rk F (j + 1) = some q := by
  show (bif F j then (match kB rk F j with
    | none => some j
    | some q => bif decide (rk j ≤ rk q) then some q else some j) else kB rk F j) = _
  rw [h, hb]
  show (bif decide (rk j ≤ rk q) then some q else some j) = _
  rw [decide_eq_true d]; rfl
theorem kB_gt {rk : qA} {F : Nat → Bool} {j q : Nat} (h : F j = true) (hb : kB rk F j = some q) (d : ¬ rk j ≤ rk q) : kB rk F (j + 1) = some j := by
  show (bif F j then (match kB rk F j with
    | none => some j
    | some q => bif decide (rk j ≤ rk q) then some q else some j) else kB rk F j) = _
  rw [h, hb]
  show (bif decide (rk j ≤ rk q) then some q else some j) = _
  rw [decide_eq_false d]; rfl
def pt_Mo_leader : zz_PT := fun As ws k _ => ∃ (f : Nat → va_E) (R : List va_E) (t : qM) (c : Int32), As = [.ref 46, .int c] ∧ ws = gW f t R ∧ kz (oCrew c) (k (some (.int 0)) (gW f (uTh t (nI (oCrew c))) R)) (k (some (.int (gr (kB t.2.2.2.1.1 (kF t.2.2.2.2.2 t.2.2.2.1.2.1 c.toNatClampNeg) 50)))) (gW f (uTh t 0) R))
set_option maxHeartbeats 4000000 in
set_option maxRecDepth 100000 in
theorem m_Mo_leader (l : Launch) : zz_M zz_CL l y_Mo_leader (Cond.code y_Mo_leader c_Mo_leader 4 (some .int) :: zz_big) (zz_rm 3 65 1 6) (2, false, 0, 0, pt_Mo_leader) := by
  refine zz_M_of (HOST := "CrewRules") (L := [(1, 149, (1, false, 0, 0, pt_Mo_isCrew)), (0, 94, (4, false, 0, 0, pt_Mo_throwing)), (0, 159, (3, false, 0, 0, pt_Mo_isFull))]) (sw := sw_Mo_leader) (pg := pg_Mo_leader) (th := th_Mo_leader) (ini := false) (by decide +kernel) zz_static (fun h => nomatch h) (by decide) (by decide) ok_Mo_leader (zz_cons (zz_ev_S (m_Mo_isCrew l) yw_Mo_isCrew ys_Mo_isCrew lk_Mo_149 ⟨rfl, rfl, by decide, by decide⟩) (zz_cons (zz_ev_V (m_Mo_throwing l) yw_Mo_throwing yv_Mo_throwing lk_Mo_94 ⟨rfl, rfl, by decide, by decide⟩ (ci := 7) rfl recv_Mo_throwing) (zz_cons (zz_ev_V (m_Mo_isFull l) yw_Mo_isFull yv_Mo_isFull lk_Mo_159 ⟨rfl, rfl, by decide, by decide⟩ (ci := 7) rfl recv_Mo_isFull) zz_nil))) (fun pc E h => (nomatch h)) (zz_VC1 80 27 [true, true, true, true] rfl ?_)
  rintro As ws k x ⟨f, R, ⟨⟨th, tp, ln, aa, wr, pl⟩, ta, ⟨⟨td, le, ge, re, lg, ne⟩, ⟨nn, nk, nr, nx⟩, su, ⟨wa, ot, fm, tz⟩⟩, ⟨rk, mr, un, bg, bf⟩, kd, im⟩, c, rfl, rfl, hk⟩
  unfold oCrew at hk
  dsimp only at hk
  by_cases cz : iR 0 19 c = true
  · obtain ⟨c, hc, rfl⟩ := iR_n (hi := 19) (by decide) cz
    rw [cz] at hk
    have hk := hk.1 rfl
    rw [nI_clamp (by omega)] at hk
    refine ⟨Nat.le_of_ble_eq_true rfl, fun z ls st ws nc ns => ∃ (j : Nat), j ≤ 50 ∧ z = 50 - j ∧ ls = [some (.ref 46), some (.int (nI c)), some (.int (gr (kB rk (kF im mr c) j))), some (.int (nI j))] ∧ st = [] ∧ ws = gW f (((nI 0), tp, ln, aa, wr, pl), ta, ((td, le, ge, re, lg, ne), (nn, nk, nr, nx), su, (wa, ot, fm, tz)), (rk, mr, un, bg, bf), kd, im) R ∧ nc = 0 ∧ ns = 0, ?_, ?_⟩
    · rintro z ls st ws nc ns ⟨j, hj, rfl, rfl, rfl, rfl, rfl, rfl⟩
      refine And.intro (fun (c1 : 50 ≤ nI j) => ?_) (fun (c1 : ¬ 50 ≤ nI j) => ?_)
      · have : j = 50 := by
          have := (nI_leI (a := 50) (by decide) (by omega)).mp c1
          omega
        subst this
        exact zz_e0 hk
      · have hj2 : j < 50 := Nat.lt_of_not_le (fun z : 50 ≤ j => c1 (nI_le z (by omega)))
        have ej : (nI j).toNatClampNeg = j := nI_clamp (by omega)
        refine (And.intro (And.intro rfl (And.intro rfl (And.intro rfl (And.intro (by decide) (by decide))))) ?_)
        refine Exists.intro f (Exists.intro R (Exists.intro (((nI 0), tp, ln, aa, wr, pl), ta, ((td, le, ge, re, lg, ne), (nn, nk, nr, nx), su, (wa, ot, fm, tz)), (rk, mr, un, bg, bf), kd, im) (Exists.intro c (Exists.intro j (And.intro (by omega) (And.intro hj2 (And.intro rfl (And.intro rfl (?_)))))))))
        cases hf : kF im mr c j with
        | true =>
          refine And.intro (fun (z : zb true = 0) => absurd z (by decide)) (fun _ => ?_)
          cases hb : kB rk (kF im mr c) j with
          | none =>
            refine And.intro (fun _ => ?_) (fun (z : ¬ gr none < 0) => absurd (by decide) z)
            exact Exists.intro (50 - (j + 1)) (And.intro (by show 50 - (j + 1) < 50 - j; omega) ⟨j + 1, hj2, rfl, (by rw [show kB rk (kF im mr c) (j + 1) = some j from kB_n hf hb, ← nI_1 j]; rfl), rfl, rfl, rfl, rfl⟩)
          | some q =>
            have hq := kB_lt hb
            have eq : (nI q).toNatClampNeg = q := nI_clamp (by omega)
            refine And.intro (fun (z : nI q < 0) => absurd z (zn_ge.mpr (nI_le (a := 0) (Nat.zero_le _) (by omega)))) (fun _ => ?_)
            refine And.intro (zn_in hj2 (by decide)) ?_
            refine And.intro (zn_in (show q < 50 by omega) (by decide)) ?_
            refine And.intro (fun (d : rk (nI j).toNatClampNeg ≤ rk (nI q).toNatClampNeg) => ?_) (fun (d : ¬ rk (nI j).toNatClampNeg ≤ rk (nI q).toNatClampNeg) => ?_)
            · rw [ej, eq] at d
              exact Exists.intro (50 - (j + 1)) (And.intro (by show 50 - (j + 1) < 50 - j; omega) ⟨j + 1, hj2, rfl, (by rw [show kB rk (kF im mr c) (j + 1) = some q from kB_le hf hb d, ← nI_1 j]; rfl), rfl, rfl, rfl, rfl⟩)
            · rw [ej, eq] at d
              exact Exists.intro (50 - (j + 1)) (And.intro (by show 50 - (j + 1) < 50 - j; omega) ⟨j + 1, hj2, rfl, (by rw [show kB rk (kF im mr c) (j + 1) = some j from kB_gt hf hb d, ← nI_1 j]; rfl), rfl, rfl, rfl, rfl⟩)
        | false =>
          refine And.intro (fun _ => ?_) (fun (z : ¬ zb false = 0) => absurd rfl z)
          exact Exists.intro (50 - (j + 1)) (And.intro (by show 50 - (j + 1) < 50 - j; omega) ⟨j + 1, hj2, rfl, (by rw [show kB rk (kF im mr c) (j + 1) = kB rk (kF im mr c) j from kB_f hf, ← nI_1 j]; rfl), rfl, rfl, rfl, rfl⟩)
    · skip
      refine (And.intro (And.intro rfl (And.intro rfl (And.intro rfl (And.intro (by decide) (by decide))))) ?_)
      refine Exists.intro (nI c) (And.intro rfl (?_))
      rw [cz]
      refine And.intro (fun _ => ?_) (fun (z : zb true = 0) => absurd z (by decide))
      refine (And.intro (And.intro rfl (And.intro rfl (And.intro rfl (And.intro (by decide) (by decide))))) ?_)
      refine Exists.intro f (Exists.intro R (Exists.intro ((th, tp, ln, aa, wr, pl), ta, ((td, le, ge, re, lg, ne), (nn, nk, nr, nx), su, (wa, ot, fm, tz)), (rk, mr, un, bg, bf), kd, im) (Exists.intro false (Exists.intro false (Exists.intro false (And.intro rfl (And.intro rfl (?_))))))))
      refine And.intro (fun _ => ?_) (fun (z : ¬ zb false = 0) => absurd rfl z)
      exact Exists.intro 50 (And.intro trivial ⟨0, by decide, rfl, rfl, rfl, rfl, rfl, rfl⟩)
  · have cz : iR 0 19 c = false := by cases e : iR 0 19 c; rfl; exact absurd e cz
    refine ⟨Nat.le_of_ble_eq_true rfl, fun _ _ _ _ _ _ => False, fun _ _ _ _ _ _ h => h.elim, ?_⟩
    refine (And.intro (And.intro rfl (And.intro rfl (And.intro rfl (And.intro (by decide) (by decide))))) ?_)
    refine Exists.intro c (And.intro rfl (?_))
    rw [cz]
    rw [cz] at hk
    have hk := hk.2 (show ¬ (1 : Nat) = 0 by decide)
    refine And.intro (fun (z : ¬ zb false = 0) => absurd rfl z) (fun _ => ?_)
    refine (And.intro (And.intro rfl (And.intro rfl (And.intro rfl (And.intro (by decide) (by decide))))) ?_)
    refine Exists.intro f (Exists.intro R (Exists.intro ((th, tp, ln, aa, wr, pl), ta, ((td, le, ge, re, lg, ne), (nn, nk, nr, nx), su, (wa, ot, fm, tz)), (rk, mr, un, bg, bf), kd, im) (Exists.intro true (Exists.intro false (Exists.intro false (And.intro rfl (And.intro rfl (?_))))))))
    refine And.intro (fun (z : zb true = 0) => absurd z (by decide)) (fun _ => ?_)
    exact zz_e0 hk
theorem recv_Mo_leader : ∀ As ws k x, pt_Mo_leader As ws k x → ∃ q As' fs, As = .ref q :: As' ∧ ws[q]? = some (.inr (7, fs)) := by
  rintro As ws k x ⟨f, R, t, c, rfl, rfl, hk⟩
  exact ⟨_, _, _, rfl, rfl⟩
def kK (un : qA) (h : Int32) (p : Nat) : Bool := aN (fun s => kH un p s h) 10
def pt_Mo_skilled : zz_PT := fun As ws k _ => ∃ (f : Nat → va_E) (R : List va_E) (t : qM) (h : Int32), As = [.ref 46, .int h] ∧ ws = gW f t R ∧ k (some (.int (nI (nN (kK t.2.2.2.1.2.2.1 h) 50)))) ws
def iMo_skilled (f : Nat → va_E) (R : List va_E) (t : qM) (h : Int32) (c : Nat) : Nat → zz_Q := fun z ls st ws nc ns => ∃ (j i : Nat), (match c with
    | 0 => j ≤ 50 ∧ z = 20 * (50 - j) + 15 ∧ ls = [some (.ref 46), some (.int h), some (.int (nI (nN (kK t.2.2.2.1.2.2.1 h) j))), some (.int (nI j)), none, none]
    | _ => j < 50 ∧ i ≤ 10 ∧ z = 20 * (50 - j) + (10 - i) ∧ ls = [some (.ref 46), some (.int h), some (.int (nI (nN (kK t.2.2.2.1.2.2.1 h) j))), some (.int (nI j)), some (.int (zb (aN (fun s => kH t.2.2.2.1.2.2.1 j s h) i))), some (.int (nI i))]) ∧ st = [] ∧ ws = gW f t R ∧ nc = 0 ∧ ns = 0
set_option maxHeartbeats 4000000 in
set_option maxRecDepth 100000 in
theorem m_Mo_skilled (l : Launch) : zz_M zz_CL l y_Mo_skilled (Cond.code y_Mo_skilled c_Mo_skilled 6 (some .int) :: zz_big) (zz_rm 2 43 1 6) (2, false, 0, 0, pt_Mo_skilled) := by
  refine zz_M_of (HOST := "CrewRules") (L := [(0, 172, (4, false, 0, 0, pt_Mo_has))]) (sw := sw_Mo_skilled) (pg := pg_Mo_skilled) (th := th_Mo_skilled) (ini := false) (by decide +kernel) zz_static (fun h => nomatch h) (by decide) (by decide) ok_Mo_skilled (zz_cons (zz_ev_V (m_Mo_has l) yw_Mo_has yv_Mo_has lk_Mo_172 ⟨rfl, rfl, by decide, by decide⟩ (ci := 7) rfl recv_Mo_has) zz_nil) (fun pc E h => (nomatch h)) (zz_VCn 80 ?_)
  rintro As ws k x ⟨f, R, ⟨⟨th, tp, ln, aa, wr, pl⟩, ta, ⟨⟨td, le, ge, re, lg, ne⟩, ⟨nn, nk, nr, nx⟩, su, ⟨wa, ot, fm, tz⟩⟩, ⟨rk, mr, un, bg, bf⟩, kd, im⟩, h, rfl, rfl, hk⟩
  dsimp only at hk
  refine ⟨Nat.le_of_ble_eq_true rfl, [(4, [true, true, true, true, false, false], iMo_skilled f R ((th, tp, ln, aa, wr, pl), ta, ((td, le, ge, re, lg, ne), (nn, nk, nr, nx), su, (wa, ot, fm, tz)), (rk, mr, un, bg, bf), kd, im) h 0), (16, [true, true, true, true, true, true], iMo_skilled f R ((th, tp, ln, aa, wr, pl), ta, ((td, le, ge, re, lg, ne), (nn, nk, nr, nx), su, (wa, ot, fm, tz)), (rk, mr, un, bg, bf), kd, im) h 1)], zz_al1 ⟨rfl, ?_⟩ (zz_al1 ⟨rfl, ?_⟩ zz_al0), ?_⟩
  · rintro z ls st ws nc ns ⟨j, i, ⟨hj, rfl, rfl⟩, rfl, rfl, rfl, rfl⟩
    refine And.intro (fun (c1 : 50 ≤ nI j) => ?_) (fun (c1 : ¬ 50 ≤ nI j) => ?_)
    · have : j = 50 := by
        have := (nI_leI (a := 50) (by decide) (by omega)).mp c1
        omega
      subst this
      exact zz_e0 hk
    · have hj2 : j < 50 := Nat.lt_of_not_le (fun z : 50 ≤ j => c1 (nI_le z (by omega)))
      exact Exists.intro (20 * (50 - j) + (10 - 0)) (And.intro (by show 20 * (50 - j) + (10 - 0) < 20 * (50 - j) + 15; omega) ⟨j, 0, ⟨hj2, Nat.zero_le _, rfl, rfl⟩, rfl, rfl, rfl, rfl⟩)
  · rintro z ls st ws nc ns ⟨j, i, ⟨hj, hi, rfl, rfl⟩, rfl, rfl, rfl, rfl⟩
    refine And.intro (fun (c1 : 10 ≤ nI i) => ?_) (fun (c1 : ¬ 10 ≤ nI i) => ?_)
    · have : i = 10 := by
        have := (nI_leI (a := 10) (by decide) (by omega)).mp c1
        omega
      subst this
      dsimp only
      cases ha : aN (fun s => kH un j s h) 10 with
      | true =>
        refine And.intro (fun (z : zb true = 0) => absurd z (by decide)) (fun _ => ?_)
        exact Exists.intro (20 * (50 - (j + 1)) + 15) (And.intro (by show 20 * (50 - (j + 1)) + 15 < 20 * (50 - j) + (10 - 10); omega) ⟨j + 1, 0, ⟨hj, rfl, (by dsimp only; rw [nN_t (f := kK un h) (j := j) ha, ← nI_1 (nN (kK un h) j), ← nI_1 j]; rfl)⟩, rfl, rfl, rfl, rfl⟩)
      | false =>
        refine And.intro (fun _ => ?_) (fun (z : ¬ zb false = 0) => absurd rfl z)
        exact Exists.intro (20 * (50 - (j + 1)) + 15) (And.intro (by show 20 * (50 - (j + 1)) + 15 < 20 * (50 - j) + (10 - 10); omega) ⟨j + 1, 0, ⟨hj, rfl, (by dsimp only; rw [nN_f (f := kK un h) (j := j) ha, Int32.add_zero, ← nI_1 j]; rfl)⟩, rfl, rfl, rfl, rfl⟩)
    · have hi2 : i < 10 := Nat.lt_of_not_le (fun z : 10 ≤ i => c1 (nI_le z (by omega)))
      dsimp only
      cases ha : aN (fun s => kH un j s h) i with
      | true =>
        refine And.intro (fun _ => ?_) (fun (z : zb true = 0) => absurd z (by decide))
        exact Exists.intro (20 * (50 - j) + (10 - (i + 1))) (And.intro (by show 20 * (50 - j) + (10 - (i + 1)) < 20 * (50 - j) + (10 - i); omega) ⟨j, i + 1, ⟨hj, hi2, rfl, (by dsimp only; rw [show aN (fun s => kH un j s h) (i + 1) = true from (by rw [aN_s, ha, Bool.true_or]; try rfl), ← nI_1 i]; rfl)⟩, rfl, rfl, rfl, rfl⟩)
      | false =>
        refine And.intro (fun (z : ¬ zb false = 0) => absurd rfl z) (fun _ => ?_)
        refine (And.intro (And.intro rfl (And.intro rfl (And.intro rfl (And.intro (by decide) (by decide))))) ?_)
        refine Exists.intro f (Exists.intro R (Exists.intro ((th, tp, ln, aa, wr, pl), ta, ((td, le, ge, re, lg, ne), (nn, nk, nr, nx), su, (wa, ot, fm, tz)), (rk, mr, un, bg, bf), kd, im) (Exists.intro j (Exists.intro i (Exists.intro h (And.intro hj (And.intro hi2 (And.intro rfl (And.intro rfl (?_))))))))))
        cases hb : kH un j i h with
        | true =>
          refine And.intro (fun (z : zb true = 0) => absurd z (by decide)) (fun _ => ?_)
          exact Exists.intro (20 * (50 - j) + (10 - (i + 1))) (And.intro (by show 20 * (50 - j) + (10 - (i + 1)) < 20 * (50 - j) + (10 - i); omega) ⟨j, i + 1, ⟨hj, hi2, rfl, (by dsimp only; rw [show aN (fun s => kH un j s h) (i + 1) = true from (by rw [aN_s, ha, hb]; try rfl), ← nI_1 i]; rfl)⟩, rfl, rfl, rfl, rfl⟩)
        | false =>
          refine And.intro (fun _ => ?_) (fun (z : ¬ zb false = 0) => absurd rfl z)
          exact Exists.intro (20 * (50 - j) + (10 - (i + 1))) (And.intro (by show 20 * (50 - j) + (10 - (i + 1)) < 20 * (50 - j) + (10 - i); omega) ⟨j, i + 1, ⟨hj, hi2, rfl, (by dsimp only; rw [show aN (fun s => kH un j s h) (i + 1) = false from (by rw [aN_s, ha, hb]; try rfl), ← nI_1 i]; rfl)⟩, rfl, rfl, rfl, rfl⟩)
  · exact Exists.intro (20 * (50 - 0) + 15) (And.intro trivial ⟨0, 0, ⟨Nat.zero_le _, rfl, rfl⟩, rfl, rfl, rfl, rfl⟩)
theorem recv_Mo_skilled : ∀ As ws k x, pt_Mo_skilled As ws k x → ∃ q As' fs, As = .ref q :: As' ∧ ws[q]? = some (.inr (7, fs)) := by
  rintro As ws k x ⟨f, R, t, h, rfl, rfl, hk⟩
  exact ⟨_, _, _, rfl, rfl⟩
/-- need i of rule j has too few of all -/
def kD (pp : qA × qA × qA × qA × qA) (H : qH) (im : qA) (h : Int32) (j i : Nat) : Bool := decide (nI (kE im pp H none (H.2.1.2.1 (6 * j + i)).toNatClampNeg (H.2.1.2.2.1 (6 * j + i)) h) < H.2.1.1 (6 * j + i))
def kQ (pp : qA × qA × qA × qA × qA) (H : qH) (im : qA) (h : Int32) (j m : Nat) : Bool := !decide (nI (nN (kK pp.2.2.1 h) 50) < H.1.2.1 j) && !aN (kD pp H im h j) m
theorem kQ_s {pp : qA × qA × qA × qA × qA} {H : qH} {im : qA} {h : Int32} {j m : Nat} : kQ pp H im h j (m + 1) = (kQ pp H im h j m && !kD pp H im h j m) := by
  unfold kQ
  rw [aN_s, Bool.not_or, Bool.and_assoc]
def pt_Mo_canBeMet : zz_PT := fun As ws k _ => ∃ (f : Nat → va_E) (R : List va_E) (t : qM) (j : Nat) (h : Int32), j < 10 ∧ wfS t.2.2.1 ∧ wfN t.2.2.1 j ∧ As = [.ref 46, .int (nI j), .int h] ∧ ws = gW f t R ∧ k (some (.int (zb (kQ t.2.2.2.1 t.2.2.1 t.2.2.2.2.2 h j (t.2.2.1.1.2.2.2.2.2 j).toNatClampNeg)))) ws
def iMo_canBeMet (f : Nat → va_E) (R : List va_E) (t : qM) (h : Int32) (n m : Nat) : Nat → zz_Q := fun z ls st ws nc ns => ∃ (j : Nat), j ≤ m ∧ z = m - j ∧ ls = [some (.ref 46), some (.int (nI n)), some (.int h), some (.int (zb (kQ t.2.2.2.1 t.2.2.1 t.2.2.2.2.2 h n j))), some (.int (nI (6 * n + j)))] ∧ st = [] ∧ ws = gW f t R ∧ nc = 0 ∧ ns = 0
set_option maxHeartbeats 4000000 in
set_option maxRecDepth 100000 in
theorem m_Mo_canBeMet (l : Launch) : zz_M zz_CL l y_Mo_canBeMet (Cond.code y_Mo_canBeMet c_Mo_canBeMet 5 (some .boolean) :: zz_big) (zz_rm 4 97 1 6) (3, false, 0, 0, pt_Mo_canBeMet) := by
  refine zz_M_of (HOST := "CrewRules") (L := [(0, 182, (2, false, 0, 0, pt_Mo_skilled)), (0, 178, (5, false, 0, 0, pt_Mo_servers))]) (sw := sw_Mo_canBeMet) (pg := pg_Mo_canBeMet) (th := th_Mo_canBeMet) (ini := false) (by decide +kernel) zz_static (fun h => nomatch h) (by decide) (by decide) ok_Mo_canBeMet (zz_cons (zz_ev_V (m_Mo_skilled l) yw_Mo_skilled yv_Mo_skilled lk_Mo_182 ⟨rfl, rfl, by decide, by decide⟩ (ci := 7) rfl recv_Mo_skilled) (zz_cons (zz_ev_V (m_Mo_servers l) yw_Mo_servers yv_Mo_servers lk_Mo_178 ⟨rfl, rfl, by decide, by decide⟩ (ci := 7) rfl recv_Mo_servers) zz_nil)) (fun pc E h => (nomatch h)) (zz_VC1 80 26 [true, true, true, true, true] rfl ?_)
  rintro As ws k x ⟨f, R, ⟨⟨th, tp, ln, aa, wr, pl⟩, ta, ⟨⟨td, le, ge, re, lg, ne⟩, ⟨nn, nk, nr, nx⟩, su, ⟨wa, ot, fm, tz⟩⟩, ⟨rk, mr, un, bg, bf⟩, kd, im⟩, n, h, hn, hS, hN, rfl, rfl, hk⟩
  obtain ⟨m, hm, hm2, hsk⟩ := hN
  dsimp only at hk hm2 hsk
  rw [hm2, nI_clamp (by omega)] at hk
  have en : (nI n).toNatClampNeg = n := nI_clamp (by omega)
  have in1 : vp_in (nI n) 20 := zn_in (by omega) (by decide)
  have e6 : (6 : Int32) * nI n + ne (nI n).toNatClampNeg = nI (6 * n + m) := by
    rw [en, hm2]
    show nI 6 * nI n + nI m = _
    rw [pk_mul, nI_add]
  have e60 : (6 : Int32) * nI n = nI (6 * n + 0) := by
    show nI 6 * nI n = _
    rw [pk_mul]
    rfl
  refine ⟨Nat.le_of_ble_eq_true rfl, iMo_canBeMet f R ((th, tp, ln, aa, wr, pl), ta, ((td, le, ge, re, lg, ne), (nn, nk, nr, nx), su, (wa, ot, fm, tz)), (rk, mr, un, bg, bf), kd, im) h n m, ?_, ?_⟩
  · rintro z ls st ws nc ns ⟨j, hj, rfl, rfl, rfl, rfl, rfl, rfl⟩
    refine And.intro in1 ?_
    refine And.intro (fun (c1 : (6 : Int32) * nI n + ne (nI n).toNatClampNeg ≤ nI (6 * n + j)) => ?_) (fun (c1 : ¬ (6 : Int32) * nI n + ne (nI n).toNatClampNeg ≤ nI (6 * n + j)) => ?_)
    · rw [e6] at c1
      have : j = m := by
        have := (nI_leI (by omega) (by omega)).mp c1
        omega
      subst this
      exact zz_eb hk
    · rw [e6] at c1
      have hj2 : j < m := Nat.lt_of_not_le (fun z : m ≤ j => c1 (nI_le (by omega) (by omega)))
      have ej : (nI (6 * n + j)).toNatClampNeg = 6 * n + j := nI_clamp (by omega)
      have i1 : vp_in (nI (6 * n + j)) 120 := zn_in (by omega) (by decide)
      obtain ⟨u, hu, hu2⟩ := hsk j hj2
      have hD : kD (rk, mr, un, bg, bf) ((td, le, ge, re, lg, ne), (nn, nk, nr, nx), su, (wa, ot, fm, tz)) im h n j = decide (nI (kE im (rk, mr, un, bg, bf) ((td, le, ge, re, lg, ne), (nn, nk, nr, nx), su, (wa, ot, fm, tz)) none u (nr (6 * n + j)) h) < nn (6 * n + j)) := by
        show decide (nI (kE im (rk, mr, un, bg, bf) ((td, le, ge, re, lg, ne), (nn, nk, nr, nx), su, (wa, ot, fm, tz)) none (nk (6 * n + j)).toNatClampNeg (nr (6 * n + j)) h) < nn (6 * n + j)) = _
        rw [hu2, nI_clamp (by omega)]
      dsimp only
      cases hq : kQ (rk, mr, un, bg, bf) ((td, le, ge, re, lg, ne), (nn, nk, nr, nx), su, (wa, ot, fm, tz)) im h n j with
      | true =>
        refine And.intro (fun (z : zb true = 0) => absurd z (by decide)) (fun _ => ?_)
        refine And.intro i1 (And.intro i1 (And.intro i1 ?_))
        refine (And.intro (And.intro rfl (And.intro rfl (And.intro rfl (And.intro (by decide) (by decide))))) ?_)
        refine Exists.intro f (Exists.intro R (Exists.intro ((th, tp, ln, aa, wr, pl), ta, ((td, le, ge, re, lg, ne), (nn, nk, nr, nx), su, (wa, ot, fm, tz)), (rk, mr, un, bg, bf), kd, im) (Exists.intro none (Exists.intro u (Exists.intro (nr (nI (6 * n + j)).toNatClampNeg) (Exists.intro h (And.intro (fun c hc => nomatch hc) (And.intro hu (And.intro hS (And.intro (by show [Value.ref 46, .int (-1), .int (nk (nI (6 * n + j)).toNatClampNeg), .int (nr (nI (6 * n + j)).toNatClampNeg), .int h] = [Value.ref 46, .int (rO none), .int (nI u), .int (nr (nI (6 * n + j)).toNatClampNeg), .int h]; rw [ej, hu2]; rfl) (And.intro rfl (?_))))))))))))
        rw [ej]
        refine And.intro (fun (d : nI (kE im (rk, mr, un, bg, bf) ((td, le, ge, re, lg, ne), (nn, nk, nr, nx), su, (wa, ot, fm, tz)) none u (nr (6 * n + j)) h) < nn (6 * n + j)) => ?_) (fun (d : ¬ nI (kE im (rk, mr, un, bg, bf) ((td, le, ge, re, lg, ne), (nn, nk, nr, nx), su, (wa, ot, fm, tz)) none u (nr (6 * n + j)) h) < nn (6 * n + j)) => ?_)
        · exact Exists.intro (m - (j + 1)) (And.intro (by show m - (j + 1) < m - j; omega) ⟨j + 1, hj2, rfl, (by dsimp only; rw [show kQ (rk, mr, un, bg, bf) ((td, le, ge, re, lg, ne), (nn, nk, nr, nx), su, (wa, ot, fm, tz)) im h n (j + 1) = false from (by rw [kQ_s, hq, hD, decide_eq_true d]; try rfl), show 6 * n + (j + 1) = 6 * n + j + 1 from rfl, ← nI_1 (6 * n + j)]; rfl), rfl, rfl, rfl, rfl⟩)
        · exact Exists.intro (m - (j + 1)) (And.intro (by show m - (j + 1) < m - j; omega) ⟨j + 1, hj2, rfl, (by dsimp only; rw [show kQ (rk, mr, un, bg, bf) ((td, le, ge, re, lg, ne), (nn, nk, nr, nx), su, (wa, ot, fm, tz)) im h n (j + 1) = true from (by rw [kQ_s, hq, hD, decide_eq_false d]; try rfl), show 6 * n + (j + 1) = 6 * n + j + 1 from rfl, ← nI_1 (6 * n + j)]; rfl), rfl, rfl, rfl, rfl⟩)
      | false =>
        refine And.intro (fun _ => ?_) (fun (z : ¬ zb false = 0) => absurd rfl z)
        exact Exists.intro (m - (j + 1)) (And.intro (by show m - (j + 1) < m - j; omega) ⟨j + 1, hj2, rfl, (by dsimp only; rw [show kQ (rk, mr, un, bg, bf) ((td, le, ge, re, lg, ne), (nn, nk, nr, nx), su, (wa, ot, fm, tz)) im h n (j + 1) = false from (by rw [kQ_s, hq, Bool.false_and]; try rfl), show 6 * n + (j + 1) = 6 * n + j + 1 from rfl, ← nI_1 (6 * n + j)]; rfl), rfl, rfl, rfl, rfl⟩)
  · refine And.intro in1 ?_
    refine (And.intro (And.intro rfl (And.intro rfl (And.intro rfl (And.intro (by decide) (by decide))))) ?_)
    refine Exists.intro f (Exists.intro R (Exists.intro ((th, tp, ln, aa, wr, pl), ta, ((td, le, ge, re, lg, ne), (nn, nk, nr, nx), su, (wa, ot, fm, tz)), (rk, mr, un, bg, bf), kd, im) (Exists.intro h (And.intro rfl (And.intro rfl (?_))))))
    refine And.intro (fun (d : nI (nN (kK un h) 50) < le (nI n).toNatClampNeg) => ?_) (fun (d : ¬ nI (nN (kK un h) 50) < le (nI n).toNatClampNeg) => ?_)
    · rw [en] at d
      exact Exists.intro m (And.intro trivial ⟨0, Nat.zero_le _, rfl, (by dsimp only; rw [show kQ (rk, mr, un, bg, bf) ((td, le, ge, re, lg, ne), (nn, nk, nr, nx), su, (wa, ot, fm, tz)) im h n 0 = false from (by unfold kQ; dsimp only; rw [decide_eq_true d]; rfl), ← e60]; rfl), rfl, rfl, rfl, rfl⟩)
    · rw [en] at d
      exact Exists.intro m (And.intro trivial ⟨0, Nat.zero_le _, rfl, (by dsimp only; rw [show kQ (rk, mr, un, bg, bf) ((td, le, ge, re, lg, ne), (nn, nk, nr, nx), su, (wa, ot, fm, tz)) im h n 0 = true from (by unfold kQ; dsimp only; rw [decide_eq_false d]; rfl), ← e60]; rfl), rfl, rfl, rfl, rfl⟩)
theorem recv_Mo_canBeMet : ∀ As ws k x, pt_Mo_canBeMet As ws k x → ∃ q As' fs, As = .ref q :: As' ∧ ws[q]? = some (.inr (7, fs)) := by
  rintro As ws k x ⟨f, R, t, j, h, hj, hS, hN, rfl, rfl, hk⟩
  exact ⟨_, _, _, rfl, rfl⟩
