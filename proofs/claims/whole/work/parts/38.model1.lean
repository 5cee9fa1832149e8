/-! ===== the model: small methods ===== -/
def uTh (t : qM) (v : Int32) : qM := ((v, t.1.2), t.2)
def uAt (t : qM) (v : Int32) : qM := ((t.1.1, t.1.2.1, t.1.2.2.1, v, t.1.2.2.2.2), t.2)
/-- fail at p; w: was it wrong before -/
def uFl (t : qM) (w : Bool) (p : Int32) : qM := ((t.1.1, t.1.2.1, t.1.2.2.1, t.1.2.2.2.1, 1, bif w then t.1.2.2.2.2.2 else p), t.2)
def pt_Mo_thrown : zz_PT := fun As ws k _ => ∃ (f : Nat → va_E) (R : List va_E) (t : qM), As = [.ref 46] ∧ ws = gW f t R ∧ k (some (.int t.1.1)) ws
set_option maxHeartbeats 4000000 in
set_option maxRecDepth 100000 in
theorem m_Mo_thrown (l : Launch) : zz_M zz_CL l y_Mo_thrown (Cond.code y_Mo_thrown c_Mo_thrown 1 (some .int) :: zz_big) (zz_rm 1 20 1 6) (1, false, 0, 0, pt_Mo_thrown) := by
  refine zz_M_of (HOST := "CrewRules") (L := []) (sw := sw_Mo_thrown) (pg := pg_Mo_thrown) (th := th_Mo_thrown) (ini := false) (by decide +kernel) zz_static (fun h => nomatch h) (by decide) (by decide) ok_Mo_thrown zz_nil (fun pc E h => (nomatch h)) (zz_VC0 20 ?_)
  rintro As ws k x ⟨f, R, ⟨⟨th, tp, ln, aa, wr, pl⟩, ta, ⟨⟨td, le, ge, re, lg, ne⟩, ⟨nn, nk, nr, nx⟩, su, ⟨wa, ot, fm, tz⟩⟩, ⟨rk, mr, un, bg, bf⟩, kd, im⟩, rfl, rfl, hk⟩
  exact ⟨Nat.le_of_ble_eq_true rfl, zz_e0 hk⟩
theorem recv_Mo_thrown : ∀ As ws k x, pt_Mo_thrown As ws k x → ∃ q As' fs, As = .ref q :: As' ∧ ws[q]? = some (.inr (7, fs)) := by
  rintro As ws k x ⟨f, R, t, rfl, rfl, hk⟩
  exact ⟨_, _, _, rfl, rfl⟩
def pt_Mo_between : zz_PT := fun As ws k _ => ∃ (v lo hi : Int32), As = [.int v, .int lo, .int hi] ∧ k (some (.int (zb (iR lo hi v)))) ws
set_option maxHeartbeats 4000000 in
set_option maxRecDepth 100000 in
theorem m_Mo_between (l : Launch) : zz_M zz_CL l y_Mo_between (Cond.code y_Mo_between c_Mo_between 3 (some .boolean) :: zz_big) (zz_rm 1 20 1 6) (3, false, 0, 0, pt_Mo_between) := by
  refine zz_M_of (HOST := "CrewRules") (L := []) (sw := sw_Mo_between) (pg := pg_Mo_between) (th := th_Mo_between) (ini := false) (by decide +kernel) zz_static (fun h => nomatch h) (by decide) (by decide) ok_Mo_between zz_nil (fun pc E h => (nomatch h)) (zz_VC0 30 ?_)
  rintro As ws k x ⟨v, lo, hi, rfl, hk⟩
  refine ⟨Nat.le_of_ble_eq_true rfl, ?_⟩
  refine And.intro (fun (c : v < lo) => ?_) (fun (c : ¬ v < lo) => ?_)
  · rw [iR_lo c] at hk
    exact zz_eb (b := false) hk
  · refine And.intro (fun (d : hi < v) => ?_) (fun (d : ¬ hi < v) => ?_)
    · rw [iR_hi (fun z => by rw [zn_le] at z; rw [zn_lt] at d; omega)] at hk
      exact zz_eb (b := false) hk
    · rw [iR_t (zn_nl c) (zn_nl d)] at hk
      exact zz_eb (b := true) hk
def pt_Mo_isPerson : zz_PT := fun As ws k _ => ∃ (v : Int32), As = [.int v] ∧ k (some (.int (zb (iR 0 49 v)))) ws
set_option maxHeartbeats 4000000 in
set_option maxRecDepth 100000 in
theorem m_Mo_isPerson (l : Launch) : zz_M zz_CL l y_Mo_isPerson (Cond.code y_Mo_isPerson c_Mo_isPerson 1 (some .boolean) :: zz_big) (zz_rm 2 42 1 6) (1, false, 0, 0, pt_Mo_isPerson) := by
  refine zz_M_of (HOST := "CrewRules") (L := [(1, 87, (3, false, 0, 0, pt_Mo_between))]) (sw := sw_Mo_isPerson) (pg := pg_Mo_isPerson) (th := th_Mo_isPerson) (ini := false) (by decide +kernel) zz_static (fun h => nomatch h) (by decide) (by decide) ok_Mo_isPerson (zz_cons (zz_ev_S (m_Mo_between l) yw_Mo_between ys_Mo_between lk_Mo_87 ⟨rfl, rfl, by decide, by decide⟩) zz_nil) (fun pc E h => (nomatch h)) (zz_VC0 30 ?_)
  rintro As ws k x ⟨v, rfl, hk⟩
  refine ⟨Nat.le_of_ble_eq_true rfl, ?_⟩
  refine (And.intro (And.intro rfl (And.intro rfl (And.intro rfl (And.intro (by decide) (by decide))))) ?_)
  refine Exists.intro v (Exists.intro 0 (Exists.intro 49 (And.intro rfl (?_))))
  exact zz_eb hk
def pt_Mo_isCrew : zz_PT := fun As ws k _ => ∃ (v : Int32), As = [.int v] ∧ k (some (.int (zb (iR 0 19 v)))) ws
set_option maxHeartbeats 4000000 in
set_option maxRecDepth 100000 in
theorem m_Mo_isCrew (l : Launch) : zz_M zz_CL l y_Mo_isCrew (Cond.code y_Mo_isCrew c_Mo_isCrew 1 (some .boolean) :: zz_big) (zz_rm 2 42 1 6) (1, false, 0, 0, pt_Mo_isCrew) := by
  refine zz_M_of (HOST := "CrewRules") (L := [(1, 87, (3, false, 0, 0, pt_Mo_between))]) (sw := sw_Mo_isCrew) (pg := pg_Mo_isCrew) (th := th_Mo_isCrew) (ini := false) (by decide +kernel) zz_static (fun h => nomatch h) (by decide) (by decide) ok_Mo_isCrew (zz_cons (zz_ev_S (m_Mo_between l) yw_Mo_between ys_Mo_between lk_Mo_87 ⟨rfl, rfl, by decide, by decide⟩) zz_nil) (fun pc E h => (nomatch h)) (zz_VC0 30 ?_)
  rintro As ws k x ⟨v, rfl, hk⟩
  refine ⟨Nat.le_of_ble_eq_true rfl, ?_⟩
  refine (And.intro (And.intro rfl (And.intro rfl (And.intro rfl (And.intro (by decide) (by decide))))) ?_)
  refine Exists.intro v (Exists.intro 0 (Exists.intro 19 (And.intro rfl (?_))))
  exact zz_eb hk
def pt_Mo_isHour : zz_PT := fun As ws k _ => ∃ (v : Int32), As = [.int v] ∧ k (some (.int (zb (iR 0 99999 v)))) ws
set_option maxHeartbeats 4000000 in
set_option maxRecDepth 100000 in
theorem m_Mo_isHour (l : Launch) : zz_M zz_CL l y_Mo_isHour (Cond.code y_Mo_isHour c_Mo_isHour 1 (some .boolean) :: zz_big) (zz_rm 2 42 1 6) (1, false, 0, 0, pt_Mo_isHour) := by
  refine zz_M_of (HOST := "CrewRules") (L := [(1, 87, (3, false, 0, 0, pt_Mo_between))]) (sw := sw_Mo_isHour) (pg := pg_Mo_isHour) (th := th_Mo_isHour) (ini := false) (by decide +kernel) zz_static (fun h => nomatch h) (by decide) (by decide) ok_Mo_isHour (zz_cons (zz_ev_S (m_Mo_between l) yw_Mo_between ys_Mo_between lk_Mo_87 ⟨rfl, rfl, by decide, by decide⟩) zz_nil) (fun pc E h => (nomatch h)) (zz_VC0 30 ?_)
  rintro As ws k x ⟨v, rfl, hk⟩
  refine ⟨Nat.le_of_ble_eq_true rfl, ?_⟩
  refine (And.intro (And.intro rfl (And.intro rfl (And.intro rfl (And.intro (by decide) (by decide))))) ?_)
  refine Exists.intro v (Exists.intro 0 (Exists.intro 99999 (And.intro rfl (?_))))
  exact zz_eb hk
def oc3 (a b c : Bool) : Nat := bif a then 1 else bif b then 2 else bif c then 3 else 0
def pt_Mo_throwing : zz_PT := fun As ws k _ => ∃ (f : Nat → va_E) (R : List va_E) (t : qM) (a b c : Bool), As = [.ref 46, .int (zb a), .int (zb b), .int (zb c)] ∧ ws = gW f t R ∧ k (some (.int (zb (a || (b || c))))) (gW f (uTh t (nI (oc3 a b c))) R)
set_option maxHeartbeats 4000000 in
set_option maxRecDepth 100000 in
theorem m_Mo_throwing (l : Launch) : zz_M zz_CL l y_Mo_throwing (Cond.code y_Mo_throwing c_Mo_throwing 4 (some .boolean) :: zz_big) (zz_rm 1 20 1 6) (4, false, 0, 0, pt_Mo_throwing) := by
  refine zz_M_of (HOST := "CrewRules") (L := []) (sw := sw_Mo_throwing) (pg := pg_Mo_throwing) (th := th_Mo_throwing) (ini := false) (by decide +kernel) zz_static (fun h => nomatch h) (by decide) (by decide) ok_Mo_throwing zz_nil (fun pc E h => (nomatch h)) (zz_VC0 60 ?_)
  rintro As ws k x ⟨f, R, ⟨⟨th, tp, ln, aa, wr, pl⟩, ta, ⟨⟨td, le, ge, re, lg, ne⟩, ⟨nn, nk, nr, nx⟩, su, ⟨wa, ot, fm, tz⟩⟩, ⟨rk, mr, un, bg, bf⟩, kd, im⟩, a, b, c, rfl, rfl, hk⟩
  refine ⟨Nat.le_of_ble_eq_true rfl, ?_⟩
  cases a with
  | true =>
    refine And.intro (fun (z : zb true = 0) => absurd z (by decide)) (fun _ => ?_)
    exact And.intro (fun (z : (1 : Int32) ≤ 0) => absurd z (by decide)) (fun _ => zz_eb (b := true) hk)
  | false =>
    refine And.intro (fun _ => ?_) (fun (z : ¬ zb false = 0) => absurd rfl z)
    cases b with
    | true =>
      refine And.intro (fun (z : zb true = 0) => absurd z (by decide)) (fun _ => ?_)
      exact And.intro (fun (z : (2 : Int32) ≤ 0) => absurd z (by decide)) (fun _ => zz_eb (b := true) hk)
    | false =>
      refine And.intro (fun _ => ?_) (fun (z : ¬ zb false = 0) => absurd rfl z)
      cases c with
      | true =>
        refine And.intro (fun (z : zb true = 0) => absurd z (by decide)) (fun _ => ?_)
        exact And.intro (fun (z : (3 : Int32) ≤ 0) => absurd z (by decide)) (fun _ => zz_eb (b := true) hk)
      | false =>
        refine And.intro (fun _ => ?_) (fun (z : ¬ zb false = 0) => absurd rfl z)
        exact And.intro (fun _ => zz_eb (b := false) hk) (fun (z : ¬ (0 : Int32) ≤ 0) => absurd (by decide) z)
theorem recv_Mo_throwing : ∀ As ws k x, pt_Mo_throwing As ws k x → ∃ q As' fs, As = .ref q :: As' ∧ ws[q]? = some (.inr (7, fs)) := by
  rintro As ws k x ⟨f, R, t, a, b, c, rfl, rfl, hk⟩
  exact ⟨_, _, _, rfl, rfl⟩
def pt_Mo_place : zz_PT := fun As ws k _ => ∃ (f : Nat → va_E) (R : List va_E) (t : qM), As = [.ref 46] ∧ ws = gW f t R ∧ k (some (.int t.1.2.2.2.2.2)) (gW f (uTh t 0) R)
set_option maxHeartbeats 4000000 in
set_option maxRecDepth 100000 in
theorem m_Mo_place (l : Launch) : zz_M zz_CL l y_Mo_place (Cond.code y_Mo_place c_Mo_place 1 (some .int) :: zz_big) (zz_rm 1 20 1 6) (1, false, 0, 0, pt_Mo_place) := by
  refine zz_M_of (HOST := "CrewRules") (L := []) (sw := sw_Mo_place) (pg := pg_Mo_place) (th := th_Mo_place) (ini := false) (by decide +kernel) zz_static (fun h => nomatch h) (by decide) (by decide) ok_Mo_place zz_nil (fun pc E h => (nomatch h)) (zz_VC0 20 ?_)
  rintro As ws k x ⟨f, R, ⟨⟨th, tp, ln, aa, wr, pl⟩, ta, ⟨⟨td, le, ge, re, lg, ne⟩, ⟨nn, nk, nr, nx⟩, su, ⟨wa, ot, fm, tz⟩⟩, ⟨rk, mr, un, bg, bf⟩, kd, im⟩, rfl, rfl, hk⟩
  exact ⟨Nat.le_of_ble_eq_true rfl, zz_e0 hk⟩
theorem recv_Mo_place : ∀ As ws k x, pt_Mo_place As ws k x → ∃ q As' fs, As = .ref q :: As' ∧ ws[q]? = some (.inr (7, fs)) := by
  rintro As ws k x ⟨f, R, t, rfl, rfl, hk⟩
  exact ⟨_, _, _, rfl, rfl⟩
def pt_Mo_fail : zz_PT := fun As ws k _ => ∃ (f : Nat → va_E) (R : List va_E) (t : qM) (w : Bool) (p : Int32), t.1.2.2.2.2.1 = zb w ∧ As = [.ref 46, .int p] ∧ ws = gW f t R ∧ k none (gW f (uFl t w p) R)
set_option maxHeartbeats 4000000 in
set_option maxRecDepth 100000 in
theorem m_Mo_fail (l : Launch) : zz_M zz_CL l y_Mo_fail (Cond.code y_Mo_fail c_Mo_fail 2 none :: zz_big) (zz_rm 1 20 1 6) (2, false, 0, 0, pt_Mo_fail) := by
  refine zz_M_of (HOST := "CrewRules") (L := []) (sw := sw_Mo_fail) (pg := pg_Mo_fail) (th := th_Mo_fail) (ini := false) (by decide +kernel) zz_static (fun h => nomatch h) (by decide) (by decide) ok_Mo_fail zz_nil (fun pc E h => (nomatch h)) (zz_VC0 30 ?_)
  rintro As ws k x ⟨f, R, ⟨⟨th, tp, ln, aa, wr, pl⟩, ta, ⟨⟨td, le, ge, re, lg, ne⟩, ⟨nn, nk, nr, nx⟩, su, ⟨wa, ot, fm, tz⟩⟩, ⟨rk, mr, un, bg, bf⟩, kd, im⟩, w, p, hw, rfl, rfl, hk⟩
  dsimp only at hw
  subst hw
  refine ⟨Nat.le_of_ble_eq_true rfl, ?_⟩
  cases w with
  | true => exact And.intro (fun (z : zb true = 0) => absurd z (by decide)) (fun _ => zz_ev0 hk)
  | false => exact And.intro (fun _ => zz_ev0 hk) (fun (z : ¬ zb false = 0) => absurd rfl z)
theorem recv_Mo_fail : ∀ As ws k x, pt_Mo_fail As ws k x → ∃ q As' fs, As = .ref q :: As' ∧ ws[q]? = some (.inr (7, fs)) := by
  rintro As ws k x ⟨f, R, t, w, p, hw, rfl, rfl, hk⟩
  exact ⟨_, _, _, rfl, rfl⟩
/-- the reader's state: length n, place a -/
def mA (t : qM) (n a : Nat) : Prop := t.1.2.2.1 = nI n ∧ t.1.2.2.2.1 = nI a ∧ by8 t.2.1 n ∧ a < 1000000
theorem sk_big {tb : qA} {n a : Nat} (hn : n ≤ 300) : a ≤ sk tb n a ∧ sk tb n a ≤ a + 300 := by
  rcases Nat.lt_or_ge a n with h | h
  · have := sk_b (tb := tb) (Nat.le_of_lt h); omega
  · rw [sk_end h]; omega
def pt_Mo_see : zz_PT := fun As ws k _ => ∃ (f : Nat → va_E) (R : List va_E) (t : qM) (n a : Nat), mA t n a ∧ As = [.ref 46] ∧ ws = gW f t R ∧ k (some (.int (bt t.2.1 n (sk t.2.1 n a)))) (gW f (uAt t (nI (sk t.2.1 n a))) R)
set_option maxHeartbeats 4000000 in
set_option maxRecDepth 100000 in
theorem m_Mo_see (l : Launch) : zz_M zz_CL l y_Mo_see (Cond.code y_Mo_see c_Mo_see 1 (some .int) :: zz_big) (zz_rm 1 20 1 6) (1, false, 0, 0, pt_Mo_see) := by
  refine zz_M_of (HOST := "CrewRules") (L := []) (sw := sw_Mo_see) (pg := pg_Mo_see) (th := th_Mo_see) (ini := false) (by decide +kernel) zz_static (fun h => nomatch h) (by decide) (by decide) ok_Mo_see zz_nil (fun pc E h => (nomatch h)) (zz_VC1 60 0 [true] rfl ?_)
  rintro As ws k x ⟨f, R, ⟨⟨th, tp, ln, aa, wr, pl⟩, ta, ⟨⟨td, le, ge, re, lg, ne⟩, ⟨nn, nk, nr, nx⟩, su, ⟨wa, ot, fm, tz⟩⟩, ⟨rk, mr, un, bg, bf⟩, kd, im⟩, n, a, ⟨h1, h2, h8, ha⟩, rfl, rfl, hk⟩
  dsimp only at h1 h2 h8
  subst h1; subst h2
  have hn := h8.1
  dsimp only at hk
  refine ⟨Nat.le_of_ble_eq_true rfl, fun z ls st ws nc ns => ∃ (q : Nat), q < 1000300 ∧ z = n - q ∧ sk ta n q = sk ta n a ∧ ls = [some (.ref 46)] ∧ st = [] ∧ ws = gW f ((th, tp, (nI n), (nI q), wr, pl), ta, ((td, le, ge, re, lg, ne), (nn, nk, nr, nx), su, (wa, ot, fm, tz)), (rk, mr, un, bg, bf), kd, im) R ∧ nc = 0 ∧ ns = 0, ?_, ?_⟩
  · rintro z ls st ws nc ns ⟨q, hq, rfl, hs, rfl, rfl, rfl, rfl, rfl⟩
    refine And.intro (fun (c1 : nI n ≤ nI q) => ?_) (fun (c1 : ¬ nI n ≤ nI q) => ?_)
    · have : n ≤ q := (nI_leI (by omega) (by omega)).mp c1
      rw [← hs, sk_end this, show bt ta n q = -1 from if_neg (by omega)] at hk
      exact And.intro (fun _ => zz_e0 hk) (fun z => absurd c1 z)
    · have hq2 : q < n := Nat.lt_of_not_le (fun z : n ≤ q => c1 (nI_le z (by omega)))
      have e2 : (nI q).toNatClampNeg = q := nI_clamp (by omega)
      have i1 := zn_in (show q < 300 by omega) (show 300 < 2 ^ 31 by decide)
      refine And.intro i1 ?_
      refine And.intro (fun (c2 : ¬ ta (nI q).toNatClampNeg = 32) => ?_) (fun (c2 : ta (nI q).toNatClampNeg = 32) => ?_)
      · rw [e2] at c2
        rw [← hs, sk_step hq2, if_neg c2, show bt ta n q = ta q from if_pos hq2] at hk
        rw [show ta q = ta (nI q).toNatClampNeg by rw [e2]] at hk
        exact And.intro (fun z => absurd z c1) (fun _ => And.intro i1 (zz_e0 hk))
      · rw [e2] at c2
        refine Exists.intro (n - (q + 1)) (And.intro (by show n - (q + 1) < n - q; omega) ⟨q + 1, by omega, rfl, ?_, rfl, rfl, by rw [← nI_1 q]; rfl, rfl, rfl⟩)
        rw [← hs, sk_step hq2, if_pos c2]
  · exact Exists.intro (n - a) (And.intro trivial ⟨a, by omega, rfl, rfl, rfl, rfl, rfl, rfl, rfl⟩)
theorem recv_Mo_see : ∀ As ws k x, pt_Mo_see As ws k x → ∃ q As' fs, As = .ref q :: As' ∧ ws[q]? = some (.inr (7, fs)) := by
  rintro As ws k x ⟨f, R, t, n, a, ha, rfl, rfl, hk⟩
  exact ⟨_, _, _, rfl, rfl⟩
def mE (t : qM) (w : Bool) (n a : Nat) (c : Int32) : qM := if bt t.2.1 n (sk t.2.1 n a) = c then uAt t (nI (sk t.2.1 n a + 1)) else uFl (uAt t (nI (sk t.2.1 n a + 1))) w (nI (sk t.2.1 n a))
def pt_Mo_expect : zz_PT := fun As ws k _ => ∃ (f : Nat → va_E) (R : List va_E) (t : qM) (n a : Nat) (w : Bool) (c : Int32), mA t n a ∧ t.1.2.2.2.2.1 = zb w ∧ As = [.ref 46, .int c] ∧ ws = gW f t R ∧ k none (gW f (mE t w n a c) R)
set_option maxHeartbeats 4000000 in
set_option maxRecDepth 100000 in
theorem m_Mo_expect (l : Launch) : zz_M zz_CL l y_Mo_expect (Cond.code y_Mo_expect c_Mo_expect 2 none :: zz_big) (zz_rm 2 41 1 6) (2, false, 0, 0, pt_Mo_expect) := by
  refine zz_M_of (HOST := "CrewRules") (L := [(0, 108, (1, false, 0, 0, pt_Mo_see)), (0, 112, (2, false, 0, 0, pt_Mo_fail))]) (sw := sw_Mo_expect) (pg := pg_Mo_expect) (th := th_Mo_expect) (ini := false) (by decide +kernel) zz_static (fun h => nomatch h) (by decide) (by decide) ok_Mo_expect (zz_cons (zz_ev_V (m_Mo_see l) yw_Mo_see yv_Mo_see lk_Mo_108 ⟨rfl, rfl, by decide, by decide⟩ (ci := 7) rfl recv_Mo_see) (zz_cons (zz_ev_V (m_Mo_fail l) yw_Mo_fail yv_Mo_fail lk_Mo_112 ⟨rfl, rfl, by decide, by decide⟩ (ci := 7) rfl recv_Mo_fail) zz_nil)) (fun pc E h => (nomatch h)) (zz_VC0 60 ?_)
  rintro As ws k x ⟨f, R, ⟨⟨th, tp, ln, aa, wr, pl⟩, ta, ⟨⟨td, le, ge, re, lg, ne⟩, ⟨nn, nk, nr, nx⟩, su, ⟨wa, ot, fm, tz⟩⟩, ⟨rk, mr, un, bg, bf⟩, kd, im⟩, n, a, w, c, ⟨h1, h2, h8, ha⟩, hw, rfl, rfl, hk⟩
  dsimp only at h1 h2 h8 hw
  subst h1; subst h2; subst hw
  have hn := h8.1
  refine ⟨Nat.le_of_ble_eq_true rfl, ?_⟩
  unfold mE at hk
  dsimp only at hk
  rw [← nI_1] at hk
  refine (And.intro (And.intro rfl (And.intro rfl (And.intro rfl (And.intro (by decide) (by decide))))) ?_)
  refine Exists.intro f (Exists.intro R (Exists.intro ((th, tp, (nI n), (nI a), (zb w), pl), ta, ((td, le, ge, re, lg, ne), (nn, nk, nr, nx), su, (wa, ot, fm, tz)), (rk, mr, un, bg, bf), kd, im) (Exists.intro n (Exists.intro a (And.intro ⟨rfl, rfl, h8, by omega⟩ (And.intro rfl (And.intro rfl (?_))))))))
  refine And.intro (fun (d : bt ta n (sk ta n a) = c) => ?_) (fun (d : ¬ bt ta n (sk ta n a) = c) => ?_)
  · rw [if_pos d] at hk
    exact zz_ev0 hk
  · rw [if_neg d] at hk
    refine (And.intro (And.intro rfl (And.intro rfl (And.intro rfl (And.intro (by decide) (by decide))))) ?_)
    refine Exists.intro f (Exists.intro R (Exists.intro ((th, tp, (nI n), (nI (sk ta n a)), (zb w), pl), ta, ((td, le, ge, re, lg, ne), (nn, nk, nr, nx), su, (wa, ot, fm, tz)), (rk, mr, un, bg, bf), kd, im) (Exists.intro w (Exists.intro _ (And.intro rfl (And.intro rfl (And.intro rfl (?_))))))))
    exact zz_ev0 hk
theorem recv_Mo_expect : ∀ As ws k x, pt_Mo_expect As ws k x → ∃ q As' fs, As = .ref q :: As' ∧ ws[q]? = some (.inr (7, fs)) := by
  rintro As ws k x ⟨f, R, t, n, a, w, c, ha, hw, rfl, rfl, hk⟩
  exact ⟨_, _, _, rfl, rfl⟩
def pt_Mo_goesOn : zz_PT := fun As ws k _ => ∃ (f : Nat → va_E) (R : List va_E) (t : qM) (n a : Nat) (w : Bool) (c : Int32), mA t n a ∧ t.1.2.2.2.2.1 = zb w ∧ As = [.ref 46, .int c] ∧ ws = gW f t R ∧ k (some (.int (zb (bif w then false else (tk t.2.1 n a c).1)))) (gW f (bif w then t else uAt t (nI (tk t.2.1 n a c).2)) R)
set_option maxHeartbeats 4000000 in
set_option maxRecDepth 100000 in
theorem m_Mo_goesOn (l : Launch) : zz_M zz_CL l y_Mo_goesOn (Cond.code y_Mo_goesOn c_Mo_goesOn 2 (some .boolean) :: zz_big) (zz_rm 2 40 1 6) (2, false, 0, 0, pt_Mo_goesOn) := by
  refine zz_M_of (HOST := "CrewRules") (L := [(0, 108, (1, false, 0, 0, pt_Mo_see))]) (sw := sw_Mo_goesOn) (pg := pg_Mo_goesOn) (th := th_Mo_goesOn) (ini := false) (by decide +kernel) zz_static (fun h => nomatch h) (by decide) (by decide) ok_Mo_goesOn (zz_cons (zz_ev_V (m_Mo_see l) yw_Mo_see yv_Mo_see lk_Mo_108 ⟨rfl, rfl, by decide, by decide⟩ (ci := 7) rfl recv_Mo_see) zz_nil) (fun pc E h => (nomatch h)) (zz_VC0 60 ?_)
  rintro As ws k x ⟨f, R, ⟨⟨th, tp, ln, aa, wr, pl⟩, ta, ⟨⟨td, le, ge, re, lg, ne⟩, ⟨nn, nk, nr, nx⟩, su, ⟨wa, ot, fm, tz⟩⟩, ⟨rk, mr, un, bg, bf⟩, kd, im⟩, n, a, w, c, ⟨h1, h2, h8, ha⟩, hw, rfl, rfl, hk⟩
  dsimp only at h1 h2 h8 hw
  subst h1; subst h2; subst hw
  have hn := h8.1
  refine ⟨Nat.le_of_ble_eq_true rfl, ?_⟩
  cases w with
  | true => exact And.intro (fun _ => zz_eb (b := false) hk) (fun (z : zb true = 0) => absurd z (by decide))
  | false =>
    refine And.intro (fun (z : ¬ zb false = 0) => absurd rfl z) (fun _ => ?_)
    unfold tk at hk
    dsimp only [cond_false] at hk
    refine (And.intro (And.intro rfl (And.intro rfl (And.intro rfl (And.intro (by decide) (by decide))))) ?_)
    refine Exists.intro f (Exists.intro R (Exists.intro ((th, tp, (nI n), (nI a), (zb false), pl), ta, ((td, le, ge, re, lg, ne), (nn, nk, nr, nx), su, (wa, ot, fm, tz)), (rk, mr, un, bg, bf), kd, im) (Exists.intro n (Exists.intro a (And.intro ⟨rfl, rfl, h8, by omega⟩ (And.intro rfl (And.intro rfl (?_))))))))
    refine And.intro (fun (d : bt ta n (sk ta n a) = c) => ?_) (fun (d : ¬ bt ta n (sk ta n a) = c) => ?_)
    · rw [if_pos d] at hk
      dsimp only at hk
      rw [← nI_1] at hk
      exact zz_eb (b := true) hk
    · rw [if_neg d] at hk
      exact zz_eb (b := false) hk
theorem recv_Mo_goesOn : ∀ As ws k x, pt_Mo_goesOn As ws k x → ∃ q As' fs, As = .ref q :: As' ∧ ws[q]? = some (.inr (7, fs)) := by
  rintro As ws k x ⟨f, R, t, n, a, w, c, ha, hw, rfl, rfl, hk⟩
  exact ⟨_, _, _, rfl, rfl⟩
theorem dv_i {tb : qA} {n i : Nat} (h8 : by8 tb n) (hi : i < n) : (dv tb n i).isSome = iR 48 57 (tb i) := by
  unfold dv iR
  by_cases c1 : (48 : Int32) ≤ tb i
  · by_cases c2 : tb i ≤ 57
    · rw [if_pos ⟨hi, c1, c2⟩, decide_eq_true c1, decide_eq_true c2]; rfl
    · rw [if_neg (fun z => c2 z.2.2), decide_eq_false c2, Bool.and_false]; rfl
  · rw [if_neg (fun z => c1 z.2.1), decide_eq_false c1, Bool.false_and]; rfl
def pt_Mo_isDigit : zz_PT := fun As ws k _ => ∃ (f : Nat → va_E) (R : List va_E) (t : qM) (n i : Nat), t.1.2.2.1 = nI n ∧ by8 t.2.1 n ∧ i < 2000000 ∧ As = [.ref 46, .int (nI i)] ∧ ws = gW f t R ∧ k (some (.int (zb (dv t.2.1 n i).isSome))) ws
set_option maxHeartbeats 4000000 in
set_option maxRecDepth 100000 in
theorem m_Mo_isDigit (l : Launch) : zz_M zz_CL l y_Mo_isDigit (Cond.code y_Mo_isDigit c_Mo_isDigit 2 (some .boolean) :: zz_big) (zz_rm 2 42 1 6) (2, false, 0, 0, pt_Mo_isDigit) := by
  refine zz_M_of (HOST := "CrewRules") (L := [(1, 87, (3, false, 0, 0, pt_Mo_between))]) (sw := sw_Mo_isDigit) (pg := pg_Mo_isDigit) (th := th_Mo_isDigit) (ini := false) (by decide +kernel) zz_static (fun h => nomatch h) (by decide) (by decide) ok_Mo_isDigit (zz_cons (zz_ev_S (m_Mo_between l) yw_Mo_between ys_Mo_between lk_Mo_87 ⟨rfl, rfl, by decide, by decide⟩) zz_nil) (fun pc E h => (nomatch h)) (zz_VC0 60 ?_)
  rintro As ws k x ⟨f, R, ⟨⟨th, tp, ln, aa, wr, pl⟩, ta, ⟨⟨td, le, ge, re, lg, ne⟩, ⟨nn, nk, nr, nx⟩, su, ⟨wa, ot, fm, tz⟩⟩, ⟨rk, mr, un, bg, bf⟩, kd, im⟩, n, i, h1, h8, hi, rfl, rfl, hk⟩
  dsimp only at h1 h8 hk
  subst h1
  have hn := h8.1
  refine ⟨Nat.le_of_ble_eq_true rfl, ?_⟩
  refine And.intro (fun (c1 : nI n ≤ nI i) => ?_) (fun (c1 : ¬ nI n ≤ nI i) => ?_)
  · have : n ≤ i := (nI_leI (by omega) (by omega)).mp c1
    rw [show dv ta n i = none from if_neg (fun z => absurd z.1 (by omega))] at hk
    exact zz_eb (b := false) hk
  · have hi2 : i < n := Nat.lt_of_not_le (fun z : n ≤ i => c1 (nI_le z (by omega)))
    have e2 : (nI i).toNatClampNeg = i := nI_clamp (by omega)
    refine And.intro (zn_in (show i < 300 by omega) (by decide)) ?_
    rw [dv_i h8 hi2] at hk
    refine (And.intro (And.intro rfl (And.intro rfl (And.intro rfl (And.intro (by decide) (by decide))))) ?_)
    refine Exists.intro (ta (nI i).toNatClampNeg) (Exists.intro 48 (Exists.intro 57 (And.intro rfl (?_))))
    rw [show ta i = ta (nI i).toNatClampNeg by rw [e2]] at hk
    refine And.intro (fun z => ?_) (fun z => ?_)
    · rw [zb_0.mp z] at hk
      exact zz_eb (b := false) hk
    · rw [zb_n.mp z] at hk
      exact zz_eb (b := true) hk
theorem recv_Mo_isDigit : ∀ As ws k x, pt_Mo_isDigit As ws k x → ∃ q As' fs, As = .ref q :: As' ∧ ws[q]? = some (.inr (7, fs)) := by
  rintro As ws k x ⟨f, R, t, n, i, h1, h8, hi, rfl, rfl, hk⟩
  exact ⟨_, _, _, rfl, rfl⟩
def uF (t : qM) (w : Bool) : Option Nat → qM
  | none => t
  | some p => uFl t w (nI p)
/-- the letter at s, or 0 and a fault -/
def mL (tb : qA) (n s : Nat) : Int32 × Nat × Option Nat := bif iR 97 106 (bt tb n s) then (bt tb n s - 97, s + 1, none) else (0, s, some s)
def pt_Mo_letter : zz_PT := fun As ws k _ => ∃ (f : Nat → va_E) (R : List va_E) (t : qM) (n a : Nat) (w : Bool), mA t n a ∧ t.1.2.2.2.2.1 = zb w ∧ As = [.ref 46] ∧ ws = gW f t R ∧ ∀ r, r = mL t.2.1 n (sk t.2.1 n a) → k (some (.int r.1)) (gW f (uF (uAt t (nI r.2.1)) w r.2.2) R)
set_option maxHeartbeats 4000000 in
set_option maxRecDepth 100000 in
theorem m_Mo_letter (l : Launch) : zz_M zz_CL l y_Mo_letter (Cond.code y_Mo_letter c_Mo_letter 2 (some .int) :: zz_big) (zz_rm 2 42 1 6) (1, false, 0, 0, pt_Mo_letter) := by
  refine zz_M_of (HOST := "CrewRules") (L := [(0, 108, (1, false, 0, 0, pt_Mo_see)), (1, 87, (3, false, 0, 0, pt_Mo_between)), (0, 112, (2, false, 0, 0, pt_Mo_fail))]) (sw := sw_Mo_letter) (pg := pg_Mo_letter) (th := th_Mo_letter) (ini := false) (by decide +kernel) zz_static (fun h => nomatch h) (by decide) (by decide) ok_Mo_letter (zz_cons (zz_ev_V (m_Mo_see l) yw_Mo_see yv_Mo_see lk_Mo_108 ⟨rfl, rfl, by decide, by decide⟩ (ci := 7) rfl recv_Mo_see) (zz_cons (zz_ev_S (m_Mo_between l) yw_Mo_between ys_Mo_between lk_Mo_87 ⟨rfl, rfl, by decide, by decide⟩) (zz_cons (zz_ev_V (m_Mo_fail l) yw_Mo_fail yv_Mo_fail lk_Mo_112 ⟨rfl, rfl, by decide, by decide⟩ (ci := 7) rfl recv_Mo_fail) zz_nil))) (fun pc E h => (nomatch h)) (zz_VC0 60 ?_)
  rintro As ws k x ⟨f, R, ⟨⟨th, tp, ln, aa, wr, pl⟩, ta, ⟨⟨td, le, ge, re, lg, ne⟩, ⟨nn, nk, nr, nx⟩, su, ⟨wa, ot, fm, tz⟩⟩, ⟨rk, mr, un, bg, bf⟩, kd, im⟩, n, a, w, ⟨h1, h2, h8, ha⟩, hw, rfl, rfl, hk⟩
  dsimp only at h1 h2 h8 hw
  subst h1; subst h2; subst hw
  have hn := h8.1
  refine ⟨Nat.le_of_ble_eq_true rfl, ?_⟩
  have hk := hk _ rfl
  unfold mL at hk
  dsimp only at hk
  refine (And.intro (And.intro rfl (And.intro rfl (And.intro rfl (And.intro (by decide) (by decide))))) ?_)
  refine Exists.intro f (Exists.intro R (Exists.intro ((th, tp, (nI n), (nI a), (zb w), pl), ta, ((td, le, ge, re, lg, ne), (nn, nk, nr, nx), su, (wa, ot, fm, tz)), (rk, mr, un, bg, bf), kd, im) (Exists.intro n (Exists.intro a (And.intro ⟨rfl, rfl, h8, by omega⟩ (And.intro rfl (And.intro rfl (?_))))))))
  refine (And.intro (And.intro rfl (And.intro rfl (And.intro rfl (And.intro (by decide) (by decide))))) ?_)
  refine Exists.intro _ (Exists.intro 97 (Exists.intro 106 (And.intro rfl (?_))))
  refine And.intro (fun z => ?_) (fun z => ?_)
  · rw [zb_n.mp z] at hk
    dsimp only [cond_true] at hk
    rw [← nI_1] at hk
    exact zz_e0 hk
  · rw [zb_0.mp z] at hk
    refine (And.intro (And.intro rfl (And.intro rfl (And.intro rfl (And.intro (by decide) (by decide))))) ?_)
    refine Exists.intro f (Exists.intro R (Exists.intro ((th, tp, (nI n), (nI (sk ta n a)), (zb w), pl), ta, ((td, le, ge, re, lg, ne), (nn, nk, nr, nx), su, (wa, ot, fm, tz)), (rk, mr, un, bg, bf), kd, im) (Exists.intro w (Exists.intro _ (And.intro rfl (And.intro rfl (And.intro rfl (?_))))))))
    exact zz_e0 hk
theorem recv_Mo_letter : ∀ As ws k x, pt_Mo_letter As ws k x → ∃ q As' fs, As = .ref q :: As' ∧ ws[q]? = some (.inr (7, fs)) := by
  rintro As ws k x ⟨f, R, t, n, a, w, ha, hw, rfl, rfl, hk⟩
  exact ⟨_, _, _, rfl, rfl⟩
/-- a number from s on: it, where the reader is then, where it is wrong -/
def mn (tb : qA) (n s lo hi : Nat) : Int32 × Nat × Option Nat := match dv tb n s with
  | none => (nI lo, s, some s)
  | some d => match (if d = 0 then none else dv tb n (s + 1)) with
    | some e => (nI (10 * d + e), s + 2, if lo ≤ 10 * d + e ∧ 10 * d + e ≤ hi then (if (dv tb n (s + 2)).isSome = true then some (s + 2) else none) else some (s + 1))
    | none => (nI d, s + 1, if d = 0 ∧ 0 < lo then some s else if lo ≤ d ∧ d ≤ hi then (if (dv tb n (s + 1)).isSome = true then some (s + 1) else none) else some s)
theorem iR_nI {lo hi v : Nat} (h1 : lo < 1000) (h2 : hi < 1000) (h3 : v < 1000) : iR (nI lo) (nI hi) (nI v) = decide (lo ≤ v ∧ v ≤ hi) := by
  unfold iR
  rw [Bool.decide_and, decide_eq_decide.mpr (nI_leI (by omega) (by omega)), decide_eq_decide.mpr (nI_leI (by omega) (by omega))]
def pt_Mo_number : zz_PT := fun As ws k _ => ∃ (f : Nat → va_E) (R : List va_E) (t : qM) (n a lo hi : Nat) (w : Bool), mA t n a ∧ t.1.2.2.2.2.1 = zb w ∧ lo < 100 ∧ hi < 100 ∧ As = [.ref 46, .int (nI lo), .int (nI hi)] ∧ ws = gW f t R ∧ ∀ r, r = mn t.2.1 n (sk t.2.1 n a) lo hi → k (some (.int r.1)) (gW f (uF (uAt t (nI r.2.1)) w r.2.2) R)
theorem mn_0 {tb : qA} {n s lo hi : Nat} (h : dv tb n s = some 0) : mn tb n s lo hi = (nI 0, s + 1, (if 0 = 0 ∧ 0 < lo then some s else none : Option Nat).or (if lo ≤ 0 ∧ 0 ≤ hi then (if (dv tb n (s + 1)).isSome = true then some (s + 1) else none) else some (s + 1 - 1))) := by
  unfold mn
  rw [h]
  by_cases hl : 0 < lo
  · simp [hl]
  · simp [hl]
theorem mn_1 {tb : qA} {n s lo hi d : Nat} (h : dv tb n s = some d) (h0 : ¬ d = 0) (h1 : dv tb n (s + 1) = none) : mn tb n s lo hi = (nI d, s + 1, (none : Option Nat).or (if lo ≤ d ∧ d ≤ hi then (if (dv tb n (s + 1)).isSome = true then some (s + 1) else none) else some (s + 1 - 1))) := by
  unfold mn
  rw [h]
  simp [h0, h1]
theorem mn_2 {tb : qA} {n s lo hi d e : Nat} (h : dv tb n s = some d) (h0 : ¬ d = 0) (h1 : dv tb n (s + 1) = some e) : mn tb n s lo hi = (nI (10 * d + e), s + 2, (none : Option Nat).or (if lo ≤ 10 * d + e ∧ 10 * d + e ≤ hi then (if (dv tb n (s + 2)).isSome = true then some (s + 2) else none) else some (s + 2 - 1))) := by
  unfold mn
  rw [h]
  simp [h0, h1]
def sW (w : Bool) (F : Option Nat) : Bool := w || F.isSome
def sP (w : Bool) (pl : Int32) : Option Nat → Int32
  | none => pl
  | some p => bif w then pl else nI p
theorem uF_eq {w : Bool} {F : Option Nat} {th tp ln aa pl : Int32} {ta : qA} {H : qH} {Q : (qA × qA × qA × qA × qA) × qA × qA} : uF ((th, tp, ln, aa, zb w, pl), ta, H, Q) w F = ((th, tp, ln, aa, zb (sW w F), sP w pl F), ta, H, Q) := by
  cases F <;> cases w <;> rfl
theorem uF_or {w : Bool} {F : Option Nat} {p : Nat} {th tp ln aa pl : Int32} {ta : qA} {H : qH} {Q : (qA × qA × qA × qA × qA) × qA × qA} : uFl ((th, tp, ln, aa, zb (sW w F), sP w pl F), ta, H, Q) (sW w F) (nI p) = uF ((th, tp, ln, aa, zb w, pl), ta, H, Q) w (F.or (some p)) := by
  cases F <;> cases w <;> rfl
def iMo_number (f : Nat → va_E) (R : List va_E) (t : qM) (n s lo hi : Nat) (w : Bool) (c : Nat) : Nat → zz_Q := fun z ls st ws nc ns => ∃ (v a1 : Nat) (F : Option Nat), v < 100 ∧ a1 < 1001000 ∧ 0 < a1 ∧ (match c with
    | 0 => a1 = s + 1 ∧ v < 10 ∧ dv t.2.1 n s = some v ∧ F = (if v = 0 ∧ 0 < lo then some s else none) ∧ z = 3
    | 1 => mn t.2.1 n s lo hi = (nI v, a1, F.or (if lo ≤ v ∧ v ≤ hi then (if (dv t.2.1 n a1).isSome = true then some a1 else none) else some (a1 - 1))) ∧ z = 2
    | _ => mn t.2.1 n s lo hi = (nI v, a1, F.or (if (dv t.2.1 n a1).isSome = true then some a1 else none)) ∧ z = 1) ∧ ls = [some (.ref 46), some (.int (nI lo)), some (.int (nI hi)), some (.int (nI v))] ∧ st = [] ∧ ws = gW f (uF (uAt t (nI a1)) w F) R ∧ nc = 0 ∧ ns = 0
set_option maxHeartbeats 4000000 in
set_option maxRecDepth 100000 in
theorem m_Mo_number (l : Launch) : zz_M zz_CL l y_Mo_number (Cond.code y_Mo_number c_Mo_number 4 (some .int) :: zz_big) (zz_rm 3 63 1 6) (3, false, 0, 0, pt_Mo_number) := by
  refine zz_M_of (HOST := "CrewRules") (L := [(0, 108, (1, false, 0, 0, pt_Mo_see)), (0, 116, (2, false, 0, 0, pt_Mo_isDigit)), (0, 112, (2, false, 0, 0, pt_Mo_fail)), (1, 87, (3, false, 0, 0, pt_Mo_between))]) (sw := sw_Mo_number) (pg := pg_Mo_number) (th := th_Mo_number) (ini := false) (by decide +kernel) zz_static (fun h => nomatch h) (by decide) (by decide) ok_Mo_number (zz_cons (zz_ev_V (m_Mo_see l) yw_Mo_see yv_Mo_see lk_Mo_108 ⟨rfl, rfl, by decide, by decide⟩ (ci := 7) rfl recv_Mo_see) (zz_cons (zz_ev_V (m_Mo_isDigit l) yw_Mo_isDigit yv_Mo_isDigit lk_Mo_116 ⟨rfl, rfl, by decide, by decide⟩ (ci := 7) rfl recv_Mo_isDigit) (zz_cons (zz_ev_V (m_Mo_fail l) yw_Mo_fail yv_Mo_fail lk_Mo_112 ⟨rfl, rfl, by decide, by decide⟩ (ci := 7) rfl recv_Mo_fail) (zz_cons (zz_ev_S (m_Mo_between l) yw_Mo_between ys_Mo_between lk_Mo_87 ⟨rfl, rfl, by decide, by decide⟩) zz_nil)))) (fun pc E h => (nomatch h)) (zz_VCn 90 ?_)
  rintro As ws k x ⟨f, R, ⟨⟨th, tp, ln, aa, wr, pl⟩, ta, ⟨⟨td, le, ge, re, lg, ne⟩, ⟨nn, nk, nr, nx⟩, su, ⟨wa, ot, fm, tz⟩⟩, ⟨rk, mr, un, bg, bf⟩, kd, im⟩, n, a, lo, hi, w, ⟨h1, h2, h8, ha⟩, hw, hlo, hhi, rfl, rfl, hk⟩
  dsimp only at h1 h2 h8 hw
  subst h1; subst h2; subst hw
  have hn := h8.1
  have hk := hk _ rfl
  dsimp only at hk
  have hsb := sk_big (tb := ta) (a := a) hn
  generalize hs : sk ta n a = s at hk hsb
  refine ⟨Nat.le_of_ble_eq_true rfl, [(67, [true, true, true, true], iMo_number f R ((th, tp, (nI n), (nI a), (zb w), pl), ta, ((td, le, ge, re, lg, ne), (nn, nk, nr, nx), su, (wa, ot, fm, tz)), (rk, mr, un, bg, bf), kd, im) n s lo hi w 0), (110, [true, true, true, true], iMo_number f R ((th, tp, (nI n), (nI a), (zb w), pl), ta, ((td, le, ge, re, lg, ne), (nn, nk, nr, nx), su, (wa, ot, fm, tz)), (rk, mr, un, bg, bf), kd, im) n s lo hi w 1), (129, [true, true, true, true], iMo_number f R ((th, tp, (nI n), (nI a), (zb w), pl), ta, ((td, le, ge, re, lg, ne), (nn, nk, nr, nx), su, (wa, ot, fm, tz)), (rk, mr, un, bg, bf), kd, im) n s lo hi w 2)], zz_al1 ⟨rfl, ?_⟩ (zz_al1 ⟨rfl, ?_⟩ (zz_al1 ⟨rfl, ?_⟩ zz_al0)), ?_⟩
  · rintro z ls st ws nc ns ⟨d, a1, F, -, -, -, ⟨rfl, hd, hds, hF, rfl⟩, rfl, rfl, rfl, rfl, rfl⟩
    dsimp only at hds
    change zz_1 _ _ _ _ _ _ _ _ _ _ _ _ _ _ _ (gW f (uF ((th, tp, (nI n), (nI (s + 1)), (zb w), pl), ta, ((td, le, ge, re, lg, ne), (nn, nk, nr, nx), su, (wa, ot, fm, tz)), (rk, mr, un, bg, bf), kd, im) w F) R) _ _
    rw [uF_eq]
    by_cases d0 : d = 0
    · subst d0
      refine And.intro (fun _ => ?_) (fun (z : ¬ nI 0 ≤ 0) => absurd (by decide) z)
      refine Exists.intro 2 (And.intro (by decide) ⟨0, s + 1, F, by omega, by omega, by omega, ⟨?_, rfl⟩, rfl, rfl, by (dsimp only [uAt]; first | (rw [uF_eq]; done) | (rw [uF_eq]; rfl)), rfl, rfl⟩)
      rw [hF]
      exact mn_0 hds
    · have hF2 : F = none := by rw [hF, if_neg (fun z => d0 z.1)]
      subst hF2
      refine And.intro (fun (z : nI d ≤ 0) => absurd ((nI_leI (b := 0) (by omega) (by decide)).mp z) (by omega)) (fun _ => ?_)
      refine (And.intro (And.intro rfl (And.intro rfl (And.intro rfl (And.intro (by decide) (by decide))))) ?_)
      refine Exists.intro f (Exists.intro R (Exists.intro ((th, tp, (nI n), (nI (s + 1)), (zb (sW w none)), (sP w pl none)), ta, ((td, le, ge, re, lg, ne), (nn, nk, nr, nx), su, (wa, ot, fm, tz)), (rk, mr, un, bg, bf), kd, im) (Exists.intro n (Exists.intro (s + 1) (And.intro rfl (And.intro h8 (And.intro (by omega) (And.intro rfl (And.intro rfl (?_))))))))))
      rcases dv_cases (i := s + 1) h8 with ⟨h3, -⟩ | ⟨e, he, h3, -, h4, h5⟩
      · rw [h3]
        refine And.intro (fun _ => ?_) (fun (z : ¬ zb false = 0) => absurd rfl z)
        refine Exists.intro 2 (And.intro (by decide) ⟨d, s + 1, none, by omega, by omega, by omega, ⟨?_, rfl⟩, rfl, rfl, by (dsimp only [uAt]; first | (rw [uF_eq]; done) | (rw [uF_eq]; rfl)), rfl, rfl⟩)
        exact mn_1 hds d0 h3
      · rw [h3]
        refine And.intro (fun (z : zb true = 0) => absurd z (by decide)) (fun _ => ?_)
        have e2 : (nI (s + 1)).toNatClampNeg = s + 1 := nI_clamp (by omega)
        refine And.intro (zn_in (show s + 1 < 300 by omega) (by decide)) ?_
        have ev : 10 * nI d + ta (nI (s + 1)).toNatClampNeg - 48 = nI (10 * d + e) := by
          rw [e2, h5]
          show nI 10 * nI d + nI (48 + e) - nI 48 = _
          rw [pk_mul, nI_add, pk_sub (by omega)]
          congr 1; omega
        refine Exists.intro 2 (And.intro (by decide) ⟨10 * d + e, s + 2, none, by omega, by omega, by omega, ⟨?_, rfl⟩, by rw [← ev]; rfl, rfl, by rw [show s + 2 = s + 1 + 1 from rfl, ← nI_1 (s + 1)]; (dsimp only [uAt]; first | (rw [uF_eq]; done) | (rw [uF_eq]; rfl)), rfl, rfl⟩)
        exact mn_2 hds d0 h3
  · rintro z ls st ws nc ns ⟨v, a1, F, hv, ha1, hp1, ⟨he, rfl⟩, rfl, rfl, rfl, rfl, rfl⟩
    dsimp only at he
    change zz_1 _ _ _ _ _ _ _ _ _ _ _ _ _ _ _ (gW f (uF ((th, tp, (nI n), (nI a1), (zb w), pl), ta, ((td, le, ge, re, lg, ne), (nn, nk, nr, nx), su, (wa, ot, fm, tz)), (rk, mr, un, bg, bf), kd, im) w F) R) _ _
    rw [uF_eq]
    refine (And.intro (And.intro rfl (And.intro rfl (And.intro rfl (And.intro (by decide) (by decide))))) ?_)
    refine Exists.intro (nI v) (Exists.intro (nI lo) (Exists.intro (nI hi) (And.intro rfl (?_))))
    rw [iR_nI (by omega) (by omega) (by omega)]
    by_cases c : lo ≤ v ∧ v ≤ hi
    · rw [decide_eq_true c]
      rw [if_pos c] at he
      refine And.intro (fun _ => ?_) (fun (z : zb true = 0) => absurd z (by decide))
      exact Exists.intro 1 (And.intro (by decide) ⟨v, a1, F, hv, ha1, hp1, ⟨he, rfl⟩, rfl, rfl, by (dsimp only [uAt]; first | (rw [uF_eq]; done) | (rw [uF_eq]; rfl)), rfl, rfl⟩)
    · rw [decide_eq_false c]
      rw [if_neg c] at he
      refine And.intro (fun (z : ¬ zb false = 0) => absurd rfl z) (fun _ => ?_)
      refine (And.intro (And.intro rfl (And.intro rfl (And.intro rfl (And.intro (by decide) (by decide))))) ?_)
      refine Exists.intro f (Exists.intro R (Exists.intro ((th, tp, (nI n), (nI a1), (zb (sW w F)), (sP w pl F)), ta, ((td, le, ge, re, lg, ne), (nn, nk, nr, nx), su, (wa, ot, fm, tz)), (rk, mr, un, bg, bf), kd, im) (Exists.intro (sW w F) (Exists.intro _ (And.intro rfl (And.intro rfl (And.intro rfl (?_))))))))
      refine Exists.intro 1 (And.intro (by decide) ⟨v, a1, F.or (some (a1 - 1)), hv, ha1, hp1, ⟨?_, rfl⟩, rfl, rfl, ?_, rfl, rfl⟩)
      · dsimp only
        rw [he]
        cases F <;> rfl
      · show gW f (uFl ((th, tp, (nI n), (nI a1), (zb (sW w F)), (sP w pl F)), ta, ((td, le, ge, re, lg, ne), (nn, nk, nr, nx), su, (wa, ot, fm, tz)), (rk, mr, un, bg, bf), kd, im) (sW w F) (nI a1 - 1)) R = _
        rw [nI_pr1 hp1, uF_or]
        rfl
  · rintro z ls st ws nc ns ⟨v, a1, F, hv, ha1, hp1, ⟨he, rfl⟩, rfl, rfl, rfl, rfl, rfl⟩
    dsimp only at he
    rw [he] at hk
    dsimp only at hk
    change zz_1 _ _ _ _ _ _ _ _ _ _ _ _ _ _ _ (gW f (uF ((th, tp, (nI n), (nI a1), (zb w), pl), ta, ((td, le, ge, re, lg, ne), (nn, nk, nr, nx), su, (wa, ot, fm, tz)), (rk, mr, un, bg, bf), kd, im) w F) R) _ _
    rw [uF_eq]
    refine (And.intro (And.intro rfl (And.intro rfl (And.intro rfl (And.intro (by decide) (by decide))))) ?_)
    refine Exists.intro f (Exists.intro R (Exists.intro ((th, tp, (nI n), (nI a1), (zb (sW w F)), (sP w pl F)), ta, ((td, le, ge, re, lg, ne), (nn, nk, nr, nx), su, (wa, ot, fm, tz)), (rk, mr, un, bg, bf), kd, im) (Exists.intro n (Exists.intro a1 (And.intro rfl (And.intro h8 (And.intro (by omega) (And.intro rfl (And.intro rfl (?_))))))))))
    cases hd : (dv ta n a1).isSome with
    | false =>
      rw [hd, if_neg (by decide), Option.or_none] at hk
      have hk : k (some (.int (nI v))) (gW f (uF ((th, tp, (nI n), (nI a1), (zb w), pl), ta, ((td, le, ge, re, lg, ne), (nn, nk, nr, nx), su, (wa, ot, fm, tz)), (rk, mr, un, bg, bf), kd, im) w F) R) := hk
      rw [uF_eq] at hk
      exact And.intro (fun _ => zz_e0 hk) (fun (z : ¬ zb false = 0) => absurd rfl z)
    | true =>
      rw [hd, if_pos rfl] at hk
      have hk : k (some (.int (nI v))) (gW f (uF ((th, tp, (nI n), (nI a1), (zb w), pl), ta, ((td, le, ge, re, lg, ne), (nn, nk, nr, nx), su, (wa, ot, fm, tz)), (rk, mr, un, bg, bf), kd, im) w (F.or (some a1))) R) := hk
      rw [← uF_or] at hk
      refine And.intro (fun (z : zb true = 0) => absurd z (by decide)) (fun _ => ?_)
      refine (And.intro (And.intro rfl (And.intro rfl (And.intro rfl (And.intro (by decide) (by decide))))) ?_)
      refine Exists.intro f (Exists.intro R (Exists.intro ((th, tp, (nI n), (nI a1), (zb (sW w F)), (sP w pl F)), ta, ((td, le, ge, re, lg, ne), (nn, nk, nr, nx), su, (wa, ot, fm, tz)), (rk, mr, un, bg, bf), kd, im) (Exists.intro (sW w F) (Exists.intro _ (And.intro rfl (And.intro rfl (And.intro rfl (?_))))))))
      exact zz_e0 hk
  · skip
    refine (And.intro (And.intro rfl (And.intro rfl (And.intro rfl (And.intro (by decide) (by decide))))) ?_)
    refine Exists.intro f (Exists.intro R (Exists.intro ((th, tp, (nI n), (nI a), (zb w), pl), ta, ((td, le, ge, re, lg, ne), (nn, nk, nr, nx), su, (wa, ot, fm, tz)), (rk, mr, un, bg, bf), kd, im) (Exists.intro n (Exists.intro a (And.intro ⟨rfl, rfl, h8, by omega⟩ (And.intro rfl (And.intro rfl (?_))))))))
    rw [hs]
    refine (And.intro (And.intro rfl (And.intro rfl (And.intro rfl (And.intro (by decide) (by decide))))) ?_)
    refine Exists.intro f (Exists.intro R (Exists.intro ((th, tp, (nI n), (nI s), (zb w), pl), ta, ((td, le, ge, re, lg, ne), (nn, nk, nr, nx), su, (wa, ot, fm, tz)), (rk, mr, un, bg, bf), kd, im) (Exists.intro n (Exists.intro s (And.intro rfl (And.intro h8 (And.intro (by omega) (And.intro rfl (And.intro rfl (?_))))))))))
    rcases dv_cases (i := s) h8 with ⟨h3, -⟩ | ⟨d, hd, h3, -, h4, h5⟩
    · unfold mn at hk
      rw [h3] at hk ⊢
      refine And.intro (fun (z : ¬ zb false = 0) => absurd rfl z) (fun _ => ?_)
      refine (And.intro (And.intro rfl (And.intro rfl (And.intro rfl (And.intro (by decide) (by decide))))) ?_)
      refine Exists.intro f (Exists.intro R (Exists.intro ((th, tp, (nI n), (nI s), (zb w), pl), ta, ((td, le, ge, re, lg, ne), (nn, nk, nr, nx), su, (wa, ot, fm, tz)), (rk, mr, un, bg, bf), kd, im) (Exists.intro w (Exists.intro _ (And.intro rfl (And.intro rfl (And.intro rfl (?_))))))))
      exact zz_e0 hk
    · rw [h3]
      refine And.intro (fun _ => ?_) (fun (z : zb true = 0) => absurd z (by decide))
      have e2 : (nI s).toNatClampNeg = s := nI_clamp (by omega)
      have ev : ta (nI s).toNatClampNeg - 48 = nI d := by
        rw [e2, h5]
        show nI (48 + d) - nI 48 = _
        rw [pk_sub (by omega)]
        congr 1; omega
      refine And.intro (zn_in (show s < 300 by omega) (by decide)) ?_
      by_cases d0 : d = 0
      · refine And.intro (fun (z : ¬ ta (nI s).toNatClampNeg - 48 = 0) => absurd (by rw [ev, d0]; rfl) z) (fun _ => ?_)
        by_cases hl : 0 < lo
        · refine And.intro (fun (z : nI lo ≤ 0) => absurd ((nI_leI (b := 0) (by omega) (by decide)).mp z) (by omega)) (fun _ => ?_)
          refine (And.intro (And.intro rfl (And.intro rfl (And.intro rfl (And.intro (by decide) (by decide))))) ?_)
          refine Exists.intro f (Exists.intro R (Exists.intro ((th, tp, (nI n), (nI s + 1), (zb w), pl), ta, ((td, le, ge, re, lg, ne), (nn, nk, nr, nx), su, (wa, ot, fm, tz)), (rk, mr, un, bg, bf), kd, im) (Exists.intro w (Exists.intro _ (And.intro rfl (And.intro rfl (And.intro rfl (?_))))))))
          refine Exists.intro 3 (And.intro trivial ⟨d, s + 1, some s, by omega, by omega, by omega, ⟨rfl, hd, h3, by rw [if_pos ⟨d0, hl⟩], rfl⟩, by rw [← ev]; rfl, rfl, ?_, rfl, rfl⟩)
          show gW f (uFl ((th, tp, (nI n), (nI s + 1), (zb w), pl), ta, ((td, le, ge, re, lg, ne), (nn, nk, nr, nx), su, (wa, ot, fm, tz)), (rk, mr, un, bg, bf), kd, im) w (nI s + 1 - 1)) R = _
          rw [show nI s + 1 - 1 = nI s from Int32.add_sub_cancel _ _, ← nI_1]
          rfl
        · refine And.intro (fun _ => ?_) (fun (z : ¬ nI lo ≤ 0) => absurd (nI_le (b := 0) (by omega) (by decide)) z)
          exact Exists.intro 3 (And.intro trivial ⟨d, s + 1, none, by omega, by omega, by omega, ⟨rfl, hd, h3, by rw [if_neg (fun z => hl z.2)], rfl⟩, by rw [← ev]; rfl, rfl, by rw [← nI_1]; rfl, rfl, rfl⟩)
      · refine And.intro (fun _ => ?_) (fun (z : ta (nI s).toNatClampNeg - 48 = 0) => absurd (by rw [ev] at z; exact nI_inj9 (u := d) (v := 0) (by omega) (by omega) z) d0)
        exact Exists.intro 3 (And.intro trivial ⟨d, s + 1, none, by omega, by omega, by omega, ⟨rfl, hd, h3, by rw [if_neg (fun z => d0 z.1)], rfl⟩, by rw [← ev]; rfl, rfl, by rw [← nI_1]; rfl, rfl, rfl⟩)
theorem recv_Mo_number : ∀ As ws k x, pt_Mo_number As ws k x → ∃ q As' fs, As = .ref q :: As' ∧ ws[q]? = some (.inr (7, fs)) := by
  rintro As ws k x ⟨f, R, t, n, a, lo, hi, w, ha, hw, hlo, hhi, rfl, rfl, hk⟩
  exact ⟨_, _, _, rfl, rfl⟩
