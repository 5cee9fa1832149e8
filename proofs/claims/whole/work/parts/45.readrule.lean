/-! ===== the model: a rule, a substitute ===== -/
theorem mn_b {tb : qA} {n s lo hi : Nat} : (mn tb n s lo hi).2.1 ≤ s + 2 := by
  unfold mn
  cases dv tb n s with
  | none => exact Nat.le_add_right _ _
  | some d =>
    dsimp only
    cases (if d = 0 then none else dv tb n (s + 1) : Option Nat) with
    | none => exact Nat.le_succ _
    | some e => exact Nat.le_refl _
theorem tk_f {tb : qA} {n a a1 : Nat} {c : Int32} (h : tk tb n a c = (false, a1)) : ¬ bt tb n (sk tb n a) = c ∧ a1 = sk tb n a := by
  unfold tk at h
  by_cases d : bt tb n (sk tb n a) = c
  · rw [if_pos d] at h; cases h
  · rw [if_neg d] at h; cases h; exact ⟨d, rfl⟩
theorem tk_t {tb : qA} {n a a1 : Nat} {c : Int32} (h : tk tb n a c = (true, a1)) : bt tb n (sk tb n a) = c ∧ a1 = sk tb n a + 1 := by
  unfold tk at h
  by_cases d : bt tb n (sk tb n a) = c
  · rw [if_pos d] at h; cases h; exact ⟨d, rfl⟩
  · rw [if_neg d] at h; cases h
theorem pNeeds_0 {tb : qA} {n j d a a1 : Nat} {b : qB} (h : tk tb n a 44 = (false, a1)) : pNeeds tb n j (d + 1) a b = (true, a1, b) := by
  unfold pNeeds; rw [h]
theorem pNeeds_f {tb : qA} {n j d a a1 a2 : Nat} {b b2 : qB} (h : tk tb n a 44 = (true, a1)) (h2 : pNeed tb n a1 b j (6 - (d + 1)) = (false, a2, b2)) : pNeeds tb n j (d + 1) a b = (false, a2, b2) := by
  show (match tk tb n a 44 with
    | (false, a1) => (true, a1, b)
    | (true, a1) => match pNeed tb n a1 b j (6 - (d + 1)) with
      | (false, a2, b2) => (false, a2, b2)
      | (true, a2, b2) => pNeeds tb n j d a2 b2) = _
  rw [h]
  dsimp only
  rw [h2]
theorem pNeeds_t {tb : qA} {n j d a a1 a2 : Nat} {b b2 : qB} (h : tk tb n a 44 = (true, a1)) (h2 : pNeed tb n a1 b j (6 - (d + 1)) = (true, a2, b2)) : pNeeds tb n j (d + 1) a b = pNeeds tb n j d a2 b2 := by
  show (match tk tb n a 44 with
    | (false, a1) => (true, a1, b)
    | (true, a1) => match pNeed tb n a1 b j (6 - (d + 1)) with
      | (false, a2, b2) => (false, a2, b2)
      | (true, a2, b2) => pNeeds tb n j d a2 b2) = _
  rw [h]
  dsimp only
  rw [h2]
theorem okb_g {tb : qA} {n p : Nat} {b : qB} {res : Bool × Nat × qB} (h : res = (false, p, b)) : okb tb n res p := by
  rw [h]; exact ⟨rfl, fun z => by cases z⟩
theorem okb_f {tb : qA} {n p : Nat} {res : Bool × Nat × qB} (h : (res.1, res.2.1) = (false, p)) : okb tb n res p :=
  ⟨(Prod.mk.inj h).2, fun z => by rw [(Prod.mk.inj h).1] at z; cases z⟩
theorem okb_t {tb : qA} {n p : Nat} {res : Bool × Nat × qB} (h : (res.1, res.2.1) = (true, p)) (hd : (dv tb n p).isSome = true) : okb tb n res p :=
  ⟨(Prod.mk.inj h).2, fun _ => hd⟩
def pt_Mo_readRule : zz_PT := fun As ws k _ => ∃ (f : Nat → va_E) (R : List va_E) (t : qM) (n a : Nat) (b : qB), mA t n a ∧ a ≤ n ∧ t.1.2.2.2.2.1 = zb false ∧ rel 1 b t.2.2.1 ∧ As = [.ref 46] ∧ ws = gW f t R ∧ ∀ (aa wr pl : Int32) (H : qH), lowEq t.2.2.1 H → (Bd t.2.1 n (pRule t.2.1 n a b) 20000 aa wr pl ∨ ((pRule t.2.1 n a b).1 = true ∧ Gd n (pRule t.2.1 n a b).2.1 (pRule t.2.1 n a b).2.2 t.1.2.2.2.2.2 aa wr pl H)) → k none (gW f (rT t aa wr pl H) R)
def iMo_readRule (f : Nat → va_E) (R : List va_E) (t : qM) (n j r : Nat) (res : Bool × Nat × qB) : Nat → zz_Q := fun z ls st ws nc ns => ∃ (aa wr pl : Int32) (H : qH), lowEq t.2.2.1 H ∧ ((Bd t.2.1 n res 10000 aa wr pl ∧ z = 0) ∨ ∃ (i a : Nat) (b : qB), i ≤ 6 ∧ z = 7 - i ∧ Gd n a b t.1.2.2.2.2.2 aa wr pl H ∧ ¬ b.1.1 j = -1 ∧ b.1.2.2.2.2 j = nI i ∧ pNeeds t.2.1 n j (6 - i) a b = res) ∧ ls = [some (.ref 46), some (.int (nI j)), some (.int (nI r)), none] ∧ st = [] ∧ ws = gW f (rT t aa wr pl H) R ∧ nc = 0 ∧ ns = 0
set_option maxHeartbeats 4000000 in
set_option maxRecDepth 100000 in
theorem m_Mo_readRule (l : Launch) : zz_M zz_CL l y_Mo_readRule (Cond.code y_Mo_readRule c_Mo_readRule 4 none :: zz_big) (zz_rm 4 86 1 6) (1, false, 0, 0, pt_Mo_readRule) := by
  refine zz_M_of (HOST := "CrewRules") (L := [(0, 120, (3, false, 0, 0, pt_Mo_number)), (0, 112, (2, false, 0, 0, pt_Mo_fail)), (0, 124, (2, false, 0, 0, pt_Mo_expect)), (0, 127, (2, false, 0, 0, pt_Mo_goesOn)), (0, 108, (1, false, 0, 0, pt_Mo_see)), (0, 130, (1, false, 0, 0, pt_Mo_letter))]) (sw := sw_Mo_readRule) (pg := pg_Mo_readRule) (th := th_Mo_readRule) (ini := false) (by decide +kernel) zz_static (fun h => nomatch h) (by decide) (by decide) ok_Mo_readRule (zz_cons (zz_ev_V (m_Mo_number l) yw_Mo_number yv_Mo_number lk_Mo_120 ⟨rfl, rfl, by decide, by decide⟩ (ci := 7) rfl recv_Mo_number) (zz_cons (zz_ev_V (m_Mo_fail l) yw_Mo_fail yv_Mo_fail lk_Mo_112 ⟨rfl, rfl, by decide, by decide⟩ (ci := 7) rfl recv_Mo_fail) (zz_cons (zz_ev_V (m_Mo_expect l) yw_Mo_expect yv_Mo_expect lk_Mo_124 ⟨rfl, rfl, by decide, by decide⟩ (ci := 7) rfl recv_Mo_expect) (zz_cons (zz_ev_V (m_Mo_goesOn l) yw_Mo_goesOn yv_Mo_goesOn lk_Mo_127 ⟨rfl, rfl, by decide, by decide⟩ (ci := 7) rfl recv_Mo_goesOn) (zz_cons (zz_ev_V (m_Mo_see l) yw_Mo_see yv_Mo_see lk_Mo_108 ⟨rfl, rfl, by decide, by decide⟩ (ci := 7) rfl recv_Mo_see) (zz_cons (zz_ev_V (m_Mo_letter l) yw_Mo_letter yv_Mo_letter lk_Mo_130 ⟨rfl, rfl, by decide, by decide⟩ (ci := 7) rfl recv_Mo_letter) zz_nil)))))) (fun pc E h => (nomatch h)) (zz_VC1 200 179 [true, true, true, false] rfl ?_)
  rintro As ws k x ⟨f, R, ⟨⟨th, tp, ln, aa, wr, pl⟩, ta, ⟨⟨td, le, ge, re, lg, ne⟩, ⟨nn, nk, nr, nx⟩, su, ⟨wa, ot, fm, tz⟩⟩, ⟨rk, mr, un, bg, bf⟩, kd, im⟩, n, a, b, ⟨h1, h2, h8, -⟩, han, hw, hrel, rfl, rfl, hk⟩
  dsimp only at h1 h2 h8 hw hrel hk
  subst h1; subst h2; subst hw
  have hn := h8.1
  have hbt := tn_le (tb := ta) (n := n) (a := a) (lo := 1) (hi := 9) h8 han
  rcases ht : tn ta n a 1 9 with ⟨_ | j, a1⟩
  · have hres : pRule ta n a b = (false, a1, b) := by unfold pRule pHead; simp only [ht]
    rw [ht] at hbt
    refine ⟨Nat.le_of_ble_eq_true rfl, fun _ _ _ _ _ _ => False, fun _ _ _ _ _ _ h => h.elim, ?_⟩
    refine (And.intro (And.intro rfl (And.intro rfl (And.intro rfl (And.intro (by decide) (by decide))))) ?_)
    refine Exists.intro f (Exists.intro R (Exists.intro ((th, tp, (nI n), (nI a), (zb false), pl), ta, ((td, le, ge, re, lg, ne), (nn, nk, nr, nx), su, (wa, ot, fm, tz)), (rk, mr, un, bg, bf), kd, im) (Exists.intro n (Exists.intro a (Exists.intro 1 (Exists.intro 9 (Exists.intro false (And.intro ⟨rfl, rfl, h8, by omega⟩ (And.intro rfl (And.intro (by omega) (And.intro (by omega) (And.intro rfl (And.intro rfl ((fun rr hrr => ?_)))))))))))))))
    have hn0 := mn_tn0 ht
    have hnb := mn_b (tb := ta) (n := n) (s := sk ta n a) (lo := 1) (hi := 9)
    have hsb := sk_big (tb := ta) (a := a) hn
    rw [show mn ta n (sk ta n a) 1 9 = rr from hrr.symm] at hn0 hnb
    obtain ⟨vv, av, FF⟩ := rr
    dsimp only at hn0 hnb
    subst hn0
    refine And.intro (fun _ => ?_) (fun (z : zb true = 0) => absurd z (by decide))
    refine And.intro (fun (z : zb true = 0) => absurd z (by decide)) (fun _ => ?_)
    exact zz_ev0 (hk (nI av) (zb true) (nI a1) ((td, le, ge, re, lg, ne), (nn, nk, nr, nx), su, (wa, ot, fm, tz)) lowEq_r (Or.inl ⟨rfl, a1, av, rfl, okb_g hres, rfl, by omega⟩))
  · rw [ht] at hbt
    dsimp only at hbt
    have hj := hbt.2.2 j rfl
    have e := (mn_tn1 ht).1
    rw [(mn_tn1 ht).2 (by decide), if_neg (by decide)] at e
    obtain ⟨r, hr⟩ : ∃ r, r = 10 + j := ⟨_, rfl⟩
    have e10 : (10 : Int32) + nI j = nI r := by
      rw [hr]
      show nI 10 + nI j = _
      rw [nI_add]
    have er : (nI r).toNatClampNeg = r := nI_clamp (by omega)
    have ir : vp_in (nI r) 20 := zn_in (by omega) (by decide)
    have ir10 : vp_in ((10 : Int32) + nI j) 20 := by rw [e10]; exact ir
    by_cases hb : b.1.1 j = -1
    · have htd : td r = 0 := by
        have := hrel.1 j (by omega)
        rw [decide_eq_true hb] at this
        rw [hr]
        exact this
      refine ⟨Nat.le_of_ble_eq_true rfl, iMo_readRule f R ((th, tp, (nI n), (nI a), (zb false), pl), ta, ((td, le, ge, re, lg, ne), (nn, nk, nr, nx), su, (wa, ot, fm, tz)), (rk, mr, un, bg, bf), kd, im) n j r (pRule ta n a b), ?_, ?_⟩
      · skip
        rintro z ls st ws nc ns ⟨aa, wr, pl1, ⟨⟨td, le, ge, re, lg, ne⟩, ⟨nn, nk, nr, nx⟩, su, ⟨wa, ot, fm, tz⟩⟩, hlow, hor, rfl, rfl, rfl, rfl, rfl⟩
        dsimp only at hlow
        rcases hor with ⟨⟨rfl, p, a', rfl, hok, rfl, ha'⟩, rfl⟩ | ⟨i, a', b', hi, rfl, ⟨rfl, hpl, rfl, ha', hrel'⟩, hbj, hni, hres⟩
        · refine And.intro (fun _ => ?_) (fun (z : zb true = 0) => absurd z (by decide))
          exact zz_ev0 (hk _ _ _ ((td, le, ge, re, lg, ne), (nn, nk, nr, nx), su, (wa, ot, fm, tz)) hlow (Or.inl ⟨rfl, p, a', rfl, hok, rfl, by omega⟩))
        · dsimp only at hpl hres
          have hpl := hpl.symm
          subst hpl
          refine And.intro (fun (z : ¬ zb false = 0) => absurd rfl z) (fun _ => ?_)
          have hne : ne r = nI i := by
            have := (hrel'.2.1 j (by omega) hbj).2.2.2.2.1
            rw [hni] at this
            rw [hr]
            exact this
          refine And.intro ir ?_
          refine And.intro (fun (c1 : 6 ≤ ne (nI r).toNatClampNeg) => ?_) (fun (c1 : ¬ 6 ≤ ne (nI r).toNatClampNeg) => ?_)
          · rw [er, hne] at c1
            have : i = 6 := by
              have := (nI_leI (a := 6) (by decide) (by omega)).mp c1
              omega
            subst this
            have hres : pRule ta n a b = (true, a', b') := hres.symm
            rw [hres] at hk
            exact zz_ev0 (hk _ _ _ ((td, le, ge, re, lg, ne), (nn, nk, nr, nx), su, (wa, ot, fm, tz)) hlow (Or.inr ⟨rfl, rfl, rfl, rfl, ha', hrel'⟩))
          · rw [er, hne] at c1
            have hi6 : i < 6 := Nat.lt_of_not_le (fun z : 6 ≤ i => c1 (nI_le z (by omega)))
            refine (And.intro (And.intro rfl (And.intro rfl (And.intro rfl (And.intro (by decide) (by decide))))) ?_)
            refine Exists.intro f (Exists.intro R (Exists.intro ((th, tp, (nI n), (nI a'), (zb false), pl), ta, ((td, le, ge, re, lg, ne), (nn, nk, nr, nx), su, (wa, ot, fm, tz)), (rk, mr, un, bg, bf), kd, im) (Exists.intro n (Exists.intro a' (And.intro ⟨rfl, rfl, h8, by omega⟩ (And.intro rfl (And.intro rfl (?_))))))))
            have hb44 := tk_le (tb := ta) (n := n) (a := a') (c := 44) (by decide) ha'
            rcases h44 : tk ta n a' 44 with ⟨_ | _, a2⟩
            · rw [h44] at hb44
              obtain ⟨q1, q2⟩ := tk_f h44
              refine And.intro (fun _ => ?_) (fun (z : bt ta n (sk ta n a') = 44) => absurd z q1)
              have hres : pRule ta n a b = (true, a2, b') := by
                rw [← hres, show 6 - i = 5 - i + 1 by omega]
                exact pNeeds_0 h44
              rw [hres] at hk
              exact zz_ev0 (hk (nI (sk ta n a')) _ _ ((td, le, ge, re, lg, ne), (nn, nk, nr, nx), su, (wa, ot, fm, tz)) hlow (Or.inr ⟨rfl, rfl, rfl, by rw [q2], hb44.2.1, hrel'⟩))
            · rw [h44] at hb44
              dsimp only at hb44
              obtain ⟨ha2, hb2⟩ := tk_t h44
              refine And.intro (fun (z : ¬ bt ta n (sk ta n a') = 44) => absurd ha2 z) (fun _ => ?_)
              obtain ⟨e, he⟩ : ∃ e, e = 60 + (6 * j + i) := ⟨_, rfl⟩
              have e6 : (6 : Int32) * nI r + ne (nI r).toNatClampNeg = nI e := by
                rw [er, hne, he, hr]
                show nI 6 * nI (10 + j) + nI i = _
                rw [pk_mul, nI_add]
                congr 1; omega
              have ee : (nI e).toNatClampNeg = e := nI_clamp (by omega)
              have ie : vp_in (nI e) 120 := zn_in (by omega) (by decide)
              refine And.intro ir ?_
              refine (And.intro (And.intro rfl (And.intro rfl (And.intro rfl (And.intro (by decide) (by decide))))) ?_)
              refine Exists.intro f (Exists.intro R (Exists.intro ((th, tp, (nI n), (nI (sk ta n a') + 1), (zb false), pl), ta, ((td, le, ge, re, lg, ne), (nn, nk, nr, nx), su, (wa, ot, fm, tz)), (rk, mr, un, bg, bf), kd, im) (Exists.intro n (Exists.intro a2 (Exists.intro false (Exists.intro 61 (And.intro ⟨rfl, (by rw [hb2]; exact nI_1 _), h8, by omega⟩ (And.intro rfl (And.intro rfl (And.intro rfl (?_)))))))))))
              have hbx := tk_le (tb := ta) (n := n) (a := a2) (c := 61) (by decide) (by omega)
              rcases hex : tk ta n a2 61 with ⟨ex, a3⟩
              rw [hex] at hbx
              dsimp only at hbx
              refine And.intro (show vp_in ((6 : Int32) * nI r + ne (nI r).toNatClampNeg) 120 by rw [e6]; exact ie) ?_
              refine zz_wn (ls := [some (.ref 46), some (.int (nI j)), some (.int (nI r)), some (.int (nI e))]) (st := []) (ws := gW f ((th, tp, (nI n), (nI a3), (zb false), pl), ta, ((td, le, ge, re, lg, ne), (nn, nk, nr, (upd nx e (zb ex))), su, (wa, ot, fm, tz)), (rk, mr, un, bg, bf), kd, im) R) (nc := 0) (ns := 0) (by rw [← e6]; rfl) rfl (by rw [show upd nx e (zb ex) = upd nx ((6 : Int32) * nI r + ne (nI r).toNatClampNeg).toNatClampNeg (vp_nar .boolean (zb ex)) by rw [vpn_zb, e6, ee]]; rfl) rfl rfl ?_
              refine (And.intro (And.intro rfl (And.intro rfl (And.intro rfl (And.intro (by decide) (by decide))))) ?_)
              refine Exists.intro f (Exists.intro R (Exists.intro ((th, tp, (nI n), (nI a3), (zb false), pl), ta, ((td, le, ge, re, lg, ne), (nn, nk, nr, (upd nx e (zb ex))), su, (wa, ot, fm, tz)), (rk, mr, un, bg, bf), kd, im) (Exists.intro n (Exists.intro a3 (Exists.intro 0 (Exists.intro 9 (Exists.intro false (And.intro ⟨rfl, rfl, h8, by omega⟩ (And.intro rfl (And.intro (by omega) (And.intro (by omega) (And.intro rfl (And.intro rfl ((fun rr hrr => ?_)))))))))))))))
              have hbhn9 := tn_le (tb := ta) (n := n) (a := a3) (lo := 0) (hi := 9) h8 (by omega)
              rcases hn9 : tn ta n a3 0 9 with ⟨_ | v, a4⟩
              · rw [hn9] at hbhn9
                dsimp only at hbhn9
                have hn0 := mn_tn0 hn9
                have hnb := mn_b (tb := ta) (n := n) (s := sk ta n a3) (lo := 0) (hi := 9)
                have hsb := sk_big (tb := ta) (a := a3) hn
                rw [show mn ta n (sk ta n a3) 0 9 = rr from hrr.symm] at hn0 hnb
                obtain ⟨vv, av, FF⟩ := rr
                dsimp only at hn0 hnb
                subst hn0
                refine And.intro ie ?_
                refine And.intro (fun _ => ?_) (fun (z : zb true = 0) => absurd z (by decide))
                refine (And.intro (And.intro rfl (And.intro rfl (And.intro rfl (And.intro (by decide) (by decide))))) ?_)
                refine Exists.intro f (Exists.intro R (Exists.intro ((th, tp, (nI n), (nI av), (zb true), (nI a4)), ta, ((td, le, ge, re, lg, ne), ((upd nn (nI e).toNatClampNeg vv), nk, nr, (upd nx e (zb ex))), su, (wa, ot, fm, tz)), (rk, mr, un, bg, bf), kd, im) (Exists.intro n (Exists.intro av (Exists.intro true (Exists.intro 62 (And.intro ⟨rfl, rfl, h8, by omega⟩ (And.intro rfl (And.intro rfl (And.intro rfl (?_)))))))))))
                refine And.intro (fun _ => ?_) (fun (z : ¬ zb false = 0) => absurd rfl z)
                refine And.intro ie (And.intro ir (And.intro ir ?_))
                exact Exists.intro 0 (And.intro (by show 0 < 7 - i; omega) ⟨nI av, zb true, nI a4, ((td, le, ge, re, lg, (upd ne (nI r).toNatClampNeg (ne (nI r).toNatClampNeg + 1))), ((upd nn (nI e).toNatClampNeg vv), nk, (upd nr (nI e).toNatClampNeg 0), (upd nx e (zb ex))), su, (wa, ot, fm, tz)), (by rw [er, ee]; exact ⟨⟨hlow.1.1, hlow.1.2.1, hlow.1.2.2.1, hlow.1.2.2.2.1, hlow.1.2.2.2.2.1, lo_u (hlow.1.2.2.2.2.2) (by omega)⟩, ⟨lo_u (hlow.2.1.1) (by omega), hlow.2.1.2.1, lo_u (hlow.2.1.2.2.1) (by omega), lo_u (hlow.2.1.2.2.2) (by omega)⟩, hlow.2.2.1, ⟨hlow.2.2.2.1, hlow.2.2.2.2.1, hlow.2.2.2.2.2.1, hlow.2.2.2.2.2.2⟩⟩), Or.inl ⟨⟨rfl, a4, av, rfl, (okb_g (b := b') (by rw [← hres, show 6 - i = 5 - i + 1 by omega]; exact pNeeds_f (b2 := b') h44 (by rw [show 6 - (5 - i + 1) = i by omega]; unfold pNeed; simp only [hex, hn9]))), rfl, by omega⟩, rfl⟩, rfl, rfl, rfl, rfl, rfl⟩)
              · rw [hn9] at hbhn9
                dsimp only at hbhn9
                have hvhn9 := hbhn9.2.2 _ rfl
                have hn1 := (mn_tn1 hn9).1
                rw [(mn_tn1 hn9).2 (by decide), if_neg (by decide)] at hn1
                have hrr := hrr.trans hn1
                subst hrr
                refine And.intro ie ?_
                refine And.intro (fun (z : ¬ zb false = 0) => absurd rfl z) (fun _ => ?_)
                refine (And.intro (And.intro rfl (And.intro rfl (And.intro rfl (And.intro (by decide) (by decide))))) ?_)
                refine Exists.intro f (Exists.intro R (Exists.intro ((th, tp, (nI n), (nI a4), (zb false), pl), ta, ((td, le, ge, re, lg, ne), ((upd nn (nI e).toNatClampNeg (nI v)), nk, nr, (upd nx e (zb ex))), su, (wa, ot, fm, tz)), (rk, mr, un, bg, bf), kd, im) (Exists.intro n (Exists.intro a4 (Exists.intro false (And.intro ⟨rfl, rfl, h8, by omega⟩ (And.intro rfl (And.intro rfl (And.intro rfl ((fun rr hrr => ?_)))))))))))
                have hbl := tsk_le (tb := ta) (n := n) (a := a4) h8 (by omega)
                rcases hl : tsk ta n a4 with ⟨_ | s, a5⟩
                · rw [hl] at hbl
                  dsimp only at hbl
                  have hrr := hrr.trans (mL_0 h8 (by omega) hl)
                  subst hrr
                  refine And.intro ie ?_
                  refine (And.intro (And.intro rfl (And.intro rfl (And.intro rfl (And.intro (by decide) (by decide))))) ?_)
                  refine Exists.intro f (Exists.intro R (Exists.intro ((th, tp, (nI n), (nI a5), (zb true), (nI a5)), ta, ((td, le, ge, re, lg, ne), ((upd nn (nI e).toNatClampNeg (nI v)), (upd nk (nI e).toNatClampNeg 0), nr, (upd nx e (zb ex))), su, (wa, ot, fm, tz)), (rk, mr, un, bg, bf), kd, im) (Exists.intro n (Exists.intro a5 (Exists.intro true (Exists.intro 62 (And.intro ⟨rfl, rfl, h8, by omega⟩ (And.intro rfl (And.intro rfl (And.intro rfl (?_)))))))))))
                  refine And.intro (fun _ => ?_) (fun (z : ¬ zb false = 0) => absurd rfl z)
                  refine And.intro ie (And.intro ir (And.intro ir ?_))
                  exact Exists.intro 0 (And.intro (by show 0 < 7 - i; omega) ⟨nI a5, zb true, nI a5, ((td, le, ge, re, lg, (upd ne (nI r).toNatClampNeg (ne (nI r).toNatClampNeg + 1))), ((upd nn (nI e).toNatClampNeg (nI v)), (upd nk (nI e).toNatClampNeg 0), (upd nr (nI e).toNatClampNeg 0), (upd nx e (zb ex))), su, (wa, ot, fm, tz)), (by rw [er, ee]; exact ⟨⟨hlow.1.1, hlow.1.2.1, hlow.1.2.2.1, hlow.1.2.2.2.1, hlow.1.2.2.2.2.1, lo_u (hlow.1.2.2.2.2.2) (by omega)⟩, ⟨lo_u (hlow.2.1.1) (by omega), lo_u (hlow.2.1.2.1) (by omega), lo_u (hlow.2.1.2.2.1) (by omega), lo_u (hlow.2.1.2.2.2) (by omega)⟩, hlow.2.2.1, ⟨hlow.2.2.2.1, hlow.2.2.2.2.1, hlow.2.2.2.2.2.1, hlow.2.2.2.2.2.2⟩⟩), Or.inl ⟨⟨rfl, a5, a5, rfl, (okb_g (b := b') (by rw [← hres, show 6 - i = 5 - i + 1 by omega]; exact pNeeds_f (b2 := b') h44 (by rw [show 6 - (5 - i + 1) = i by omega]; unfold pNeed; simp only [hex, hn9, hl]))), rfl, by omega⟩, rfl⟩, rfl, rfl, rfl, rfl, rfl⟩)
                · rw [hl] at hbl
                  dsimp only at hbl
                  have hs : s < 10 := (hbl.2.2 _ rfl).1
                  have hrr := hrr.trans (mL_1 h8 (by omega) hl).1
                  subst hrr
                  refine And.intro ie ?_
                  refine (And.intro (And.intro rfl (And.intro rfl (And.intro rfl (And.intro (by decide) (by decide))))) ?_)
                  refine Exists.intro f (Exists.intro R (Exists.intro ((th, tp, (nI n), (nI a5), (zb false), pl), ta, ((td, le, ge, re, lg, ne), ((upd nn (nI e).toNatClampNeg (nI v)), (upd nk (nI e).toNatClampNeg (nI s)), nr, (upd nx e (zb ex))), su, (wa, ot, fm, tz)), (rk, mr, un, bg, bf), kd, im) (Exists.intro n (Exists.intro a5 (Exists.intro false (Exists.intro 62 (And.intro ⟨rfl, rfl, h8, by omega⟩ (And.intro rfl (And.intro rfl (And.intro rfl (?_)))))))))))
                  have hbhg := tk_le (tb := ta) (n := n) (a := a5) (c := 62) (by decide) (by omega)
                  rcases hg : tk ta n a5 62 with ⟨_ | _, a6⟩
                  · rw [hg] at hbhg
                    dsimp only at hbhg
                    refine And.intro (fun _ => ?_) (fun (z : ¬ zb false = 0) => absurd rfl z)
                    have hrN := rel_need (ex := ex) (u := nI v) (y := 0) hrel' (by omega) hbj hi6 hni hs
                    rw [← hr, ← he] at hrN
                    refine And.intro ie (And.intro ir (And.intro ir ?_))
                    exact Exists.intro (7 - (i + 1)) (And.intro (by show 7 - (i + 1) < 7 - i; omega) ⟨nI a6, zb false, pl, ((td, le, ge, re, lg, (upd ne (nI r).toNatClampNeg (ne (nI r).toNatClampNeg + 1))), ((upd nn (nI e).toNatClampNeg (nI v)), (upd nk (nI e).toNatClampNeg (nI s)), (upd nr (nI e).toNatClampNeg 0), (upd nx e (zb ex))), su, (wa, ot, fm, tz)), (by rw [er, ee]; exact ⟨⟨hlow.1.1, hlow.1.2.1, hlow.1.2.2.1, hlow.1.2.2.2.1, hlow.1.2.2.2.2.1, lo_u (hlow.1.2.2.2.2.2) (by omega)⟩, ⟨lo_u (hlow.2.1.1) (by omega), lo_u (hlow.2.1.2.1) (by omega), lo_u (hlow.2.1.2.2.1) (by omega), lo_u (hlow.2.1.2.2.2) (by omega)⟩, hlow.2.2.1, ⟨hlow.2.2.2.1, hlow.2.2.2.2.1, hlow.2.2.2.2.2.1, hlow.2.2.2.2.2.2⟩⟩), Or.inr ⟨i + 1, a6, (bNeed b' j i ex (nI v) (nI s) 0), hi6, rfl, ⟨rfl, rfl, rfl, by omega, (by rw [er, ee, hne, nI_1]; exact hrN)⟩, hbj, up_s, (by rw [← hres, show 6 - i = 5 - i + 1 by omega, show 6 - (i + 1) = 5 - i by omega]; exact (pNeeds_t h44 (by rw [show 6 - (5 - i + 1) = i by omega]; unfold pNeed; simp only [hex, hn9, hl, hg])).symm)⟩, rfl, rfl, rfl, rfl, rfl⟩)
                  · rw [hg] at hbhg
                    dsimp only at hbhg
                    refine And.intro (fun (z : zb true = 0) => absurd z (by decide)) (fun _ => ?_)
                    refine (And.intro (And.intro rfl (And.intro rfl (And.intro rfl (And.intro (by decide) (by decide))))) ?_)
                    refine Exists.intro f (Exists.intro R (Exists.intro ((th, tp, (nI n), (nI a6), (zb false), pl), ta, ((td, le, ge, re, lg, ne), ((upd nn (nI e).toNatClampNeg (nI v)), (upd nk (nI e).toNatClampNeg (nI s)), nr, (upd nx e (zb ex))), su, (wa, ot, fm, tz)), (rk, mr, un, bg, bf), kd, im) (Exists.intro n (Exists.intro a6 (Exists.intro 0 (Exists.intro 9 (Exists.intro false (And.intro ⟨rfl, rfl, h8, by omega⟩ (And.intro rfl (And.intro (by omega) (And.intro (by omega) (And.intro rfl (And.intro rfl ((fun rr hrr => ?_)))))))))))))))
                    have hbhy := tn_le (tb := ta) (n := n) (a := a6) (lo := 0) (hi := 9) h8 (by omega)
                    rcases hy : tn ta n a6 0 9 with ⟨_ | y, a7⟩
                    · rw [hy] at hbhy
                      dsimp only at hbhy
                      have hn0 := mn_tn0 hy
                      have hnb := mn_b (tb := ta) (n := n) (s := sk ta n a6) (lo := 0) (hi := 9)
                      have hsb := sk_big (tb := ta) (a := a6) hn
                      rw [show mn ta n (sk ta n a6) 0 9 = rr from hrr.symm] at hn0 hnb
                      obtain ⟨vv, av, FF⟩ := rr
                      dsimp only at hn0 hnb
                      subst hn0
                      refine And.intro ie (And.intro ir (And.intro ir ?_))
                      exact Exists.intro 0 (And.intro (by show 0 < 7 - i; omega) ⟨nI av, zb true, nI a7, ((td, le, ge, re, lg, (upd ne (nI r).toNatClampNeg (ne (nI r).toNatClampNeg + 1))), ((upd nn (nI e).toNatClampNeg (nI v)), (upd nk (nI e).toNatClampNeg (nI s)), (upd nr (nI e).toNatClampNeg vv), (upd nx e (zb ex))), su, (wa, ot, fm, tz)), (by rw [er, ee]; exact ⟨⟨hlow.1.1, hlow.1.2.1, hlow.1.2.2.1, hlow.1.2.2.2.1, hlow.1.2.2.2.2.1, lo_u (hlow.1.2.2.2.2.2) (by omega)⟩, ⟨lo_u (hlow.2.1.1) (by omega), lo_u (hlow.2.1.2.1) (by omega), lo_u (hlow.2.1.2.2.1) (by omega), lo_u (hlow.2.1.2.2.2) (by omega)⟩, hlow.2.2.1, ⟨hlow.2.2.2.1, hlow.2.2.2.2.1, hlow.2.2.2.2.2.1, hlow.2.2.2.2.2.2⟩⟩), Or.inl ⟨⟨rfl, a7, av, rfl, (okb_g (b := b') (by rw [← hres, show 6 - i = 5 - i + 1 by omega]; exact pNeeds_f (b2 := b') h44 (by rw [show 6 - (5 - i + 1) = i by omega]; unfold pNeed; simp only [hex, hn9, hl, hg, hy]))), rfl, by omega⟩, rfl⟩, rfl, rfl, rfl, rfl, rfl⟩)
                    · rw [hy] at hbhy
                      dsimp only at hbhy
                      have hvhy := hbhy.2.2 _ rfl
                      have hn1 := (mn_tn1 hy).1
                      rw [(mn_tn1 hy).2 (by decide), if_neg (by decide)] at hn1
                      have hrr := hrr.trans hn1
                      subst hrr
                      have hrN := rel_need (ex := ex) (u := nI v) (y := (nI y)) hrel' (by omega) hbj hi6 hni hs
                      rw [← hr, ← he] at hrN
                      refine And.intro ie (And.intro ir (And.intro ir ?_))
                      exact Exists.intro (7 - (i + 1)) (And.intro (by show 7 - (i + 1) < 7 - i; omega) ⟨nI a7, zb false, pl, ((td, le, ge, re, lg, (upd ne (nI r).toNatClampNeg (ne (nI r).toNatClampNeg + 1))), ((upd nn (nI e).toNatClampNeg (nI v)), (upd nk (nI e).toNatClampNeg (nI s)), (upd nr (nI e).toNatClampNeg (nI y)), (upd nx e (zb ex))), su, (wa, ot, fm, tz)), (by rw [er, ee]; exact ⟨⟨hlow.1.1, hlow.1.2.1, hlow.1.2.2.1, hlow.1.2.2.2.1, hlow.1.2.2.2.2.1, lo_u (hlow.1.2.2.2.2.2) (by omega)⟩, ⟨lo_u (hlow.2.1.1) (by omega), lo_u (hlow.2.1.2.1) (by omega), lo_u (hlow.2.1.2.2.1) (by omega), lo_u (hlow.2.1.2.2.2) (by omega)⟩, hlow.2.2.1, ⟨hlow.2.2.2.1, hlow.2.2.2.2.1, hlow.2.2.2.2.2.1, hlow.2.2.2.2.2.2⟩⟩), Or.inr ⟨i + 1, a7, (bNeed b' j i ex (nI v) (nI s) (nI y)), hi6, rfl, ⟨rfl, rfl, rfl, by omega, (by rw [er, ee, hne, nI_1]; exact hrN)⟩, hbj, up_s, (by rw [← hres, show 6 - i = 5 - i + 1 by omega, show 6 - (i + 1) = 5 - i by omega]; exact (pNeeds_t h44 (by rw [show 6 - (5 - i + 1) = i by omega]; unfold pNeed; simp only [hex, hn9, hl, hg, hy])).symm)⟩, rfl, rfl, rfl, rfl, rfl⟩)
      · skip
        have hlow : lowEq ((td, le, ge, re, lg, ne), (nn, nk, nr, nx), su, (wa, ot, fm, tz)) ((td, le, ge, re, lg, ne), (nn, nk, nr, nx), su, (wa, ot, fm, tz)) := lowEq_r
        refine (And.intro (And.intro rfl (And.intro rfl (And.intro rfl (And.intro (by decide) (by decide))))) ?_)
        refine Exists.intro f (Exists.intro R (Exists.intro ((th, tp, (nI n), (nI a), (zb false), pl), ta, ((td, le, ge, re, lg, ne), (nn, nk, nr, nx), su, (wa, ot, fm, tz)), (rk, mr, un, bg, bf), kd, im) (Exists.intro n (Exists.intro a (Exists.intro 1 (Exists.intro 9 (Exists.intro false (And.intro ⟨rfl, rfl, h8, by omega⟩ (And.intro rfl (And.intro (by omega) (And.intro (by omega) (And.intro rfl (And.intro rfl ((fun rr hrr => ?_)))))))))))))))
        have hrr := hrr.trans e
        subst hrr
        refine And.intro (fun (z : ¬ zb false = 0) => absurd rfl z) (fun _ => ?_)
        refine And.intro ir10 ?_
        refine And.intro (fun _ => ?_) (fun (d : ¬ td ((10 : Int32) + nI j).toNatClampNeg = 0) => absurd (by rw [e10, er]; exact htd) d)
        refine And.intro (fun _ => ?_) (fun (z : ¬ zb false = 0) => absurd rfl z)
        refine And.intro ir10 ?_
        refine zz_wn (ls := [some (.ref 46), some (.int (nI j)), some (.int (nI r)), none]) (st := []) (ws := gW f ((th, tp, (nI n), (nI a1), (zb false), pl), ta, (((upd td r 1), le, ge, re, lg, ne), (nn, nk, nr, nx), su, (wa, ot, fm, tz)), (rk, mr, un, bg, bf), kd, im) R) (nc := 0) (ns := 0) (by rw [← e10]; rfl) rfl (by rw [show upd td r 1 = upd td ((10 : Int32) + nI j).toNatClampNeg 1 by rw [e10, er]]; rfl) rfl rfl ?_
        refine (And.intro (And.intro rfl (And.intro rfl (And.intro rfl (And.intro (by decide) (by decide))))) ?_)
        refine Exists.intro f (Exists.intro R (Exists.intro ((th, tp, (nI n), (nI a1), (zb false), pl), ta, (((upd td r 1), le, ge, re, lg, ne), (nn, nk, nr, nx), su, (wa, ot, fm, tz)), (rk, mr, un, bg, bf), kd, im) (Exists.intro n (Exists.intro a1 (Exists.intro false (Exists.intro 58 (And.intro ⟨rfl, rfl, h8, by omega⟩ (And.intro rfl (And.intro rfl (And.intro rfl (?_)))))))))))
        have hbh58 := tk_le (tb := ta) (n := n) (a := a1) (c := 58) (by decide) (by omega)
        rcases h58 : tk ta n a1 58 with ⟨_ | _, a2⟩
        · rw [h58] at hbh58
          dsimp only at hbh58
          rw [mE_f (t := ((th, tp, (nI n), (nI a1), (zb false), pl), ta, (((upd td r 1), le, ge, re, lg, ne), (nn, nk, nr, nx), su, (wa, ot, fm, tz)), (rk, mr, un, bg, bf), kd, im)) h58]
          refine And.intro (fun _ => ?_) (fun (z : zb true = 0) => absurd z (by decide))
          refine (And.intro (And.intro rfl (And.intro rfl (And.intro rfl (And.intro (by decide) (by decide))))) ?_)
          refine Exists.intro f (Exists.intro R (Exists.intro ((th, tp, (nI n), (nI (a2 + 1)), (zb true), (nI a2)), ta, (((upd td r 1), le, ge, re, lg, ne), (nn, nk, nr, nx), su, (wa, ot, fm, tz)), (rk, mr, un, bg, bf), kd, im) (Exists.intro n (Exists.intro (a2 + 1) (Exists.intro true (Exists.intro 45 (And.intro ⟨rfl, rfl, h8, by omega⟩ (And.intro rfl (And.intro rfl (And.intro rfl (?_)))))))))))
          have hsw := sk_big (tb := ta) (a := (a2 + 1)) hn
          rw [mE_w (t := ((th, tp, (nI n), (nI (a2 + 1)), (zb true), (nI a2)), ta, (((upd td r 1), le, ge, re, lg, ne), (nn, nk, nr, nx), su, (wa, ot, fm, tz)), (rk, mr, un, bg, bf), kd, im)) rfl]
          refine And.intro (fun _ => ?_) (fun (z : zb true = 0) => absurd z (by decide))
          refine And.intro ir (And.intro ir (And.intro ir ?_))
          refine (And.intro (And.intro rfl (And.intro rfl (And.intro rfl (And.intro (by decide) (by decide))))) ?_)
          refine Exists.intro f (Exists.intro R (Exists.intro ((th, tp, (nI n), (nI (sk ta n (a2 + 1) + 1)), (zb true), (nI a2)), ta, (((upd td r 1), le, ge, (upd re (nI r).toNatClampNeg (-1)), (upd lg (nI r).toNatClampNeg (-1)), (upd ne (nI r).toNatClampNeg 0)), (nn, nk, nr, nx), su, (wa, ot, fm, tz)), (rk, mr, un, bg, bf), kd, im) (Exists.intro n (Exists.intro (sk ta n (a2 + 1) + 1) (Exists.intro true (Exists.intro 126 (And.intro ⟨rfl, rfl, h8, by omega⟩ (And.intro rfl (And.intro rfl (And.intro rfl (?_)))))))))))
          refine And.intro (fun _ => ?_) (fun (z : ¬ zb false = 0) => absurd rfl z)
          refine (And.intro (And.intro rfl (And.intro rfl (And.intro rfl (And.intro (by decide) (by decide))))) ?_)
          refine Exists.intro f (Exists.intro R (Exists.intro ((th, tp, (nI n), (nI (sk ta n (a2 + 1) + 1)), (zb true), (nI a2)), ta, (((upd td r 1), le, ge, (upd re (nI r).toNatClampNeg (-1)), (upd lg (nI r).toNatClampNeg (-1)), (upd ne (nI r).toNatClampNeg 0)), (nn, nk, nr, nx), su, (wa, ot, fm, tz)), (rk, mr, un, bg, bf), kd, im) (Exists.intro n (Exists.intro (sk ta n (a2 + 1) + 1) (Exists.intro true (Exists.intro 94 (And.intro ⟨rfl, rfl, h8, by omega⟩ (And.intro rfl (And.intro rfl (And.intro rfl (?_)))))))))))
          refine And.intro (fun _ => ?_) (fun (z : ¬ zb false = 0) => absurd rfl z)
          exact Exists.intro 0 (And.intro trivial ⟨nI (sk ta n (a2 + 1) + 1), zb true, nI a2, (((upd td r 1), le, ge, (upd re (nI r).toNatClampNeg (-1)), (upd lg (nI r).toNatClampNeg (-1)), (upd ne (nI r).toNatClampNeg 0)), (nn, nk, nr, nx), su, (wa, ot, fm, tz)), (by rw [er]; exact ⟨⟨lo_u (hlow.1.1) (by omega), hlow.1.2.1, hlow.1.2.2.1, lo_u (hlow.1.2.2.2.1) (by omega), lo_u (hlow.1.2.2.2.2.1) (by omega), lo_u (hlow.1.2.2.2.2.2) (by omega)⟩, ⟨hlow.2.1.1, hlow.2.1.2.1, hlow.2.1.2.2.1, hlow.2.1.2.2.2⟩, hlow.2.2.1, ⟨hlow.2.2.2.1, hlow.2.2.2.2.1, hlow.2.2.2.2.2.1, hlow.2.2.2.2.2.2⟩⟩), Or.inl ⟨⟨rfl, a2, (sk ta n (a2 + 1) + 1), rfl, (okb_f (by unfold pRule pHead pRest pLong; simp only [ht, if_pos hb, h58])), rfl, by omega⟩, rfl⟩, rfl, rfl, rfl, rfl, rfl⟩)
        · rw [h58] at hbh58
          dsimp only at hbh58
          rw [mE_t (t := ((th, tp, (nI n), (nI a1), (zb false), pl), ta, (((upd td r 1), le, ge, re, lg, ne), (nn, nk, nr, nx), su, (wa, ot, fm, tz)), (rk, mr, un, bg, bf), kd, im)) h58]
          refine And.intro (fun (z : ¬ zb false = 0) => absurd rfl z) (fun _ => ?_)
          refine (And.intro (And.intro rfl (And.intro rfl (And.intro rfl (And.intro (by decide) (by decide))))) ?_)
          refine Exists.intro f (Exists.intro R (Exists.intro ((th, tp, (nI n), (nI a2), (zb false), pl), ta, (((upd td r 1), le, ge, re, lg, ne), (nn, nk, nr, nx), su, (wa, ot, fm, tz)), (rk, mr, un, bg, bf), kd, im) (Exists.intro n (Exists.intro a2 (Exists.intro 0 (Exists.intro 9 (Exists.intro false (And.intro ⟨rfl, rfl, h8, by omega⟩ (And.intro rfl (And.intro (by omega) (And.intro (by omega) (And.intro rfl (And.intro rfl ((fun rr hrr => ?_)))))))))))))))
          have hbh09 := tn_le (tb := ta) (n := n) (a := a2) (lo := 0) (hi := 9) h8 (by omega)
          rcases h09 : tn ta n a2 0 9 with ⟨_ | u, a3⟩
          · rw [h09] at hbh09
            dsimp only at hbh09
            have hn0 := mn_tn0 h09
            have hnb := mn_b (tb := ta) (n := n) (s := sk ta n a2) (lo := 0) (hi := 9)
            have hsb := sk_big (tb := ta) (a := a2) hn
            rw [show mn ta n (sk ta n a2) 0 9 = rr from hrr.symm] at hn0 hnb
            obtain ⟨vv, av, FF⟩ := rr
            dsimp only at hn0 hnb
            subst hn0
            refine And.intro ir ?_
            refine (And.intro (And.intro rfl (And.intro rfl (And.intro rfl (And.intro (by decide) (by decide))))) ?_)
            refine Exists.intro f (Exists.intro R (Exists.intro ((th, tp, (nI n), (nI av), (zb true), (nI a3)), ta, (((upd td r 1), (upd le (nI r).toNatClampNeg vv), ge, re, lg, ne), (nn, nk, nr, nx), su, (wa, ot, fm, tz)), (rk, mr, un, bg, bf), kd, im) (Exists.intro n (Exists.intro av (Exists.intro true (Exists.intro 45 (And.intro ⟨rfl, rfl, h8, by omega⟩ (And.intro rfl (And.intro rfl (And.intro rfl (?_)))))))))))
            have hsw := sk_big (tb := ta) (a := av) hn
            rw [mE_w (t := ((th, tp, (nI n), (nI av), (zb true), (nI a3)), ta, (((upd td r 1), (upd le (nI r).toNatClampNeg vv), ge, re, lg, ne), (nn, nk, nr, nx), su, (wa, ot, fm, tz)), (rk, mr, un, bg, bf), kd, im)) rfl]
            refine And.intro (fun _ => ?_) (fun (z : zb true = 0) => absurd z (by decide))
            refine And.intro ir (And.intro ir (And.intro ir ?_))
            refine (And.intro (And.intro rfl (And.intro rfl (And.intro rfl (And.intro (by decide) (by decide))))) ?_)
            refine Exists.intro f (Exists.intro R (Exists.intro ((th, tp, (nI n), (nI (sk ta n av + 1)), (zb true), (nI a3)), ta, (((upd td r 1), (upd le (nI r).toNatClampNeg vv), ge, (upd re (nI r).toNatClampNeg (-1)), (upd lg (nI r).toNatClampNeg (-1)), (upd ne (nI r).toNatClampNeg 0)), (nn, nk, nr, nx), su, (wa, ot, fm, tz)), (rk, mr, un, bg, bf), kd, im) (Exists.intro n (Exists.intro (sk ta n av + 1) (Exists.intro true (Exists.intro 126 (And.intro ⟨rfl, rfl, h8, by omega⟩ (And.intro rfl (And.intro rfl (And.intro rfl (?_)))))))))))
            refine And.intro (fun _ => ?_) (fun (z : ¬ zb false = 0) => absurd rfl z)
            refine (And.intro (And.intro rfl (And.intro rfl (And.intro rfl (And.intro (by decide) (by decide))))) ?_)
            refine Exists.intro f (Exists.intro R (Exists.intro ((th, tp, (nI n), (nI (sk ta n av + 1)), (zb true), (nI a3)), ta, (((upd td r 1), (upd le (nI r).toNatClampNeg vv), ge, (upd re (nI r).toNatClampNeg (-1)), (upd lg (nI r).toNatClampNeg (-1)), (upd ne (nI r).toNatClampNeg 0)), (nn, nk, nr, nx), su, (wa, ot, fm, tz)), (rk, mr, un, bg, bf), kd, im) (Exists.intro n (Exists.intro (sk ta n av + 1) (Exists.intro true (Exists.intro 94 (And.intro ⟨rfl, rfl, h8, by omega⟩ (And.intro rfl (And.intro rfl (And.intro rfl (?_)))))))))))
            refine And.intro (fun _ => ?_) (fun (z : ¬ zb false = 0) => absurd rfl z)
            exact Exists.intro 0 (And.intro trivial ⟨nI (sk ta n av + 1), zb true, nI a3, (((upd td r 1), (upd le (nI r).toNatClampNeg vv), ge, (upd re (nI r).toNatClampNeg (-1)), (upd lg (nI r).toNatClampNeg (-1)), (upd ne (nI r).toNatClampNeg 0)), (nn, nk, nr, nx), su, (wa, ot, fm, tz)), (by rw [er]; exact ⟨⟨lo_u (hlow.1.1) (by omega), lo_u (hlow.1.2.1) (by omega), hlow.1.2.2.1, lo_u (hlow.1.2.2.2.1) (by omega), lo_u (hlow.1.2.2.2.2.1) (by omega), lo_u (hlow.1.2.2.2.2.2) (by omega)⟩, ⟨hlow.2.1.1, hlow.2.1.2.1, hlow.2.1.2.2.1, hlow.2.1.2.2.2⟩, hlow.2.2.1, ⟨hlow.2.2.2.1, hlow.2.2.2.2.1, hlow.2.2.2.2.2.1, hlow.2.2.2.2.2.2⟩⟩), Or.inl ⟨⟨rfl, a3, (sk ta n av + 1), rfl, (okb_f (by unfold pRule pHead pRest pLong; simp only [ht, if_pos hb, h58, h09])), rfl, by omega⟩, rfl⟩, rfl, rfl, rfl, rfl, rfl⟩)
          · rw [h09] at hbh09
            dsimp only at hbh09
            have hvh09 := hbh09.2.2 _ rfl
            have hn1 := (mn_tn1 h09).1
            rw [(mn_tn1 h09).2 (by decide), if_neg (by decide)] at hn1
            have hrr := hrr.trans hn1
            subst hrr
            refine And.intro ir ?_
            have hnu : ¬ nI u = -1 := nI_m1 (by omega)
            refine (And.intro (And.intro rfl (And.intro rfl (And.intro rfl (And.intro (by decide) (by decide))))) ?_)
            refine Exists.intro f (Exists.intro R (Exists.intro ((th, tp, (nI n), (nI a3), (zb false), pl), ta, (((upd td r 1), (upd le (nI r).toNatClampNeg (nI u)), ge, re, lg, ne), (nn, nk, nr, nx), su, (wa, ot, fm, tz)), (rk, mr, un, bg, bf), kd, im) (Exists.intro n (Exists.intro a3 (Exists.intro false (Exists.intro 45 (And.intro ⟨rfl, rfl, h8, by omega⟩ (And.intro rfl (And.intro rfl (And.intro rfl (?_)))))))))))
            have hbh45 := tk_le (tb := ta) (n := n) (a := a3) (c := 45) (by decide) (by omega)
            rcases h45 : tk ta n a3 45 with ⟨_ | _, a4⟩
            · rw [h45] at hbh45
              dsimp only at hbh45
              rw [mE_f (t := ((th, tp, (nI n), (nI a3), (zb false), pl), ta, (((upd td r 1), (upd le (nI r).toNatClampNeg (nI u)), ge, re, lg, ne), (nn, nk, nr, nx), su, (wa, ot, fm, tz)), (rk, mr, un, bg, bf), kd, im)) h45]
              refine And.intro (fun _ => ?_) (fun (z : zb true = 0) => absurd z (by decide))
              refine And.intro ir (And.intro ir (And.intro ir ?_))
              refine (And.intro (And.intro rfl (And.intro rfl (And.intro rfl (And.intro (by decide) (by decide))))) ?_)
              refine Exists.intro f (Exists.intro R (Exists.intro ((th, tp, (nI n), (nI (a4 + 1)), (zb true), (nI a4)), ta, (((upd td r 1), (upd le (nI r).toNatClampNeg (nI u)), ge, (upd re (nI r).toNatClampNeg (-1)), (upd lg (nI r).toNatClampNeg (-1)), (upd ne (nI r).toNatClampNeg 0)), (nn, nk, nr, nx), su, (wa, ot, fm, tz)), (rk, mr, un, bg, bf), kd, im) (Exists.intro n (Exists.intro (a4 + 1) (Exists.intro true (Exists.intro 126 (And.intro ⟨rfl, rfl, h8, by omega⟩ (And.intro rfl (And.intro rfl (And.intro rfl (?_)))))))))))
              refine And.intro (fun _ => ?_) (fun (z : ¬ zb false = 0) => absurd rfl z)
              refine (And.intro (And.intro rfl (And.intro rfl (And.intro rfl (And.intro (by decide) (by decide))))) ?_)
              refine Exists.intro f (Exists.intro R (Exists.intro ((th, tp, (nI n), (nI (a4 + 1)), (zb true), (nI a4)), ta, (((upd td r 1), (upd le (nI r).toNatClampNeg (nI u)), ge, (upd re (nI r).toNatClampNeg (-1)), (upd lg (nI r).toNatClampNeg (-1)), (upd ne (nI r).toNatClampNeg 0)), (nn, nk, nr, nx), su, (wa, ot, fm, tz)), (rk, mr, un, bg, bf), kd, im) (Exists.intro n (Exists.intro (a4 + 1) (Exists.intro true (Exists.intro 94 (And.intro ⟨rfl, rfl, h8, by omega⟩ (And.intro rfl (And.intro rfl (And.intro rfl (?_)))))))))))
              refine And.intro (fun _ => ?_) (fun (z : ¬ zb false = 0) => absurd rfl z)
              exact Exists.intro 0 (And.intro trivial ⟨nI (a4 + 1), zb true, nI a4, (((upd td r 1), (upd le (nI r).toNatClampNeg (nI u)), ge, (upd re (nI r).toNatClampNeg (-1)), (upd lg (nI r).toNatClampNeg (-1)), (upd ne (nI r).toNatClampNeg 0)), (nn, nk, nr, nx), su, (wa, ot, fm, tz)), (by rw [er]; exact ⟨⟨lo_u (hlow.1.1) (by omega), lo_u (hlow.1.2.1) (by omega), hlow.1.2.2.1, lo_u (hlow.1.2.2.2.1) (by omega), lo_u (hlow.1.2.2.2.2.1) (by omega), lo_u (hlow.1.2.2.2.2.2) (by omega)⟩, ⟨hlow.2.1.1, hlow.2.1.2.1, hlow.2.1.2.2.1, hlow.2.1.2.2.2⟩, hlow.2.2.1, ⟨hlow.2.2.2.1, hlow.2.2.2.2.1, hlow.2.2.2.2.2.1, hlow.2.2.2.2.2.2⟩⟩), Or.inl ⟨⟨rfl, a4, (a4 + 1), rfl, (okb_f (by unfold pRule pHead pRest pLong; simp only [ht, if_pos hb, h58, h09, h45])), rfl, by omega⟩, rfl⟩, rfl, rfl, rfl, rfl, rfl⟩)
            · rw [h45] at hbh45
              dsimp only at hbh45
              rw [mE_t (t := ((th, tp, (nI n), (nI a3), (zb false), pl), ta, (((upd td r 1), (upd le (nI r).toNatClampNeg (nI u)), ge, re, lg, ne), (nn, nk, nr, nx), su, (wa, ot, fm, tz)), (rk, mr, un, bg, bf), kd, im)) h45]
              refine And.intro (fun (z : ¬ zb false = 0) => absurd rfl z) (fun _ => ?_)
              refine And.intro ir ?_
              refine (And.intro (And.intro rfl (And.intro rfl (And.intro rfl (And.intro (by decide) (by decide))))) ?_)
              refine Exists.intro f (Exists.intro R (Exists.intro ((th, tp, (nI n), (nI a4), (zb false), pl), ta, (((upd td r 1), (upd le (nI r).toNatClampNeg (nI u)), ge, re, lg, ne), (nn, nk, nr, nx), su, (wa, ot, fm, tz)), (rk, mr, un, bg, bf), kd, im) (Exists.intro n (Exists.intro a4 (Exists.intro u (Exists.intro 9 (Exists.intro false (And.intro ⟨rfl, rfl, h8, by omega⟩ (And.intro rfl (And.intro (by omega) (And.intro (by omega) (And.intro (by show [Value.ref 46, .int (upd le (nI r).toNatClampNeg (nI u) (nI r).toNatClampNeg), .int 9] = [Value.ref 46, .int (nI u), .int (nI 9)]; rw [up_s]; rfl) (And.intro rfl ((fun rr hrr => ?_)))))))))))))))
              have hbh99 := tn_le (tb := ta) (n := n) (a := a4) (lo := u) (hi := 9) h8 (by omega)
              rcases h99 : tn ta n a4 u 9 with ⟨_ | v, a5⟩
              · rw [h99] at hbh99
                dsimp only at hbh99
                have hn0 := mn_tn0 h99
                have hnb := mn_b (tb := ta) (n := n) (s := sk ta n a4) (lo := u) (hi := 9)
                have hsb := sk_big (tb := ta) (a := a4) hn
                rw [show mn ta n (sk ta n a4) u 9 = rr from hrr.symm] at hn0 hnb
                obtain ⟨vv, av, FF⟩ := rr
                dsimp only at hn0 hnb
                subst hn0
                refine And.intro ir ?_
                refine And.intro ir (And.intro ir (And.intro ir ?_))
                refine (And.intro (And.intro rfl (And.intro rfl (And.intro rfl (And.intro (by decide) (by decide))))) ?_)
                refine Exists.intro f (Exists.intro R (Exists.intro ((th, tp, (nI n), (nI av), (zb true), (nI a5)), ta, (((upd td r 1), (upd le (nI r).toNatClampNeg (nI u)), (upd ge (nI r).toNatClampNeg vv), (upd re (nI r).toNatClampNeg (-1)), (upd lg (nI r).toNatClampNeg (-1)), (upd ne (nI r).toNatClampNeg 0)), (nn, nk, nr, nx), su, (wa, ot, fm, tz)), (rk, mr, un, bg, bf), kd, im) (Exists.intro n (Exists.intro av (Exists.intro true (Exists.intro 126 (And.intro ⟨rfl, rfl, h8, by omega⟩ (And.intro rfl (And.intro rfl (And.intro rfl (?_)))))))))))
                refine And.intro (fun _ => ?_) (fun (z : ¬ zb false = 0) => absurd rfl z)
                refine (And.intro (And.intro rfl (And.intro rfl (And.intro rfl (And.intro (by decide) (by decide))))) ?_)
                refine Exists.intro f (Exists.intro R (Exists.intro ((th, tp, (nI n), (nI av), (zb true), (nI a5)), ta, (((upd td r 1), (upd le (nI r).toNatClampNeg (nI u)), (upd ge (nI r).toNatClampNeg vv), (upd re (nI r).toNatClampNeg (-1)), (upd lg (nI r).toNatClampNeg (-1)), (upd ne (nI r).toNatClampNeg 0)), (nn, nk, nr, nx), su, (wa, ot, fm, tz)), (rk, mr, un, bg, bf), kd, im) (Exists.intro n (Exists.intro av (Exists.intro true (Exists.intro 94 (And.intro ⟨rfl, rfl, h8, by omega⟩ (And.intro rfl (And.intro rfl (And.intro rfl (?_)))))))))))
                refine And.intro (fun _ => ?_) (fun (z : ¬ zb false = 0) => absurd rfl z)
                exact Exists.intro 0 (And.intro trivial ⟨nI av, zb true, nI a5, (((upd td r 1), (upd le (nI r).toNatClampNeg (nI u)), (upd ge (nI r).toNatClampNeg vv), (upd re (nI r).toNatClampNeg (-1)), (upd lg (nI r).toNatClampNeg (-1)), (upd ne (nI r).toNatClampNeg 0)), (nn, nk, nr, nx), su, (wa, ot, fm, tz)), (by rw [er]; exact ⟨⟨lo_u (hlow.1.1) (by omega), lo_u (hlow.1.2.1) (by omega), lo_u (hlow.1.2.2.1) (by omega), lo_u (hlow.1.2.2.2.1) (by omega), lo_u (hlow.1.2.2.2.2.1) (by omega), lo_u (hlow.1.2.2.2.2.2) (by omega)⟩, ⟨hlow.2.1.1, hlow.2.1.2.1, hlow.2.1.2.2.1, hlow.2.1.2.2.2⟩, hlow.2.2.1, ⟨hlow.2.2.2.1, hlow.2.2.2.2.1, hlow.2.2.2.2.2.1, hlow.2.2.2.2.2.2⟩⟩), Or.inl ⟨⟨rfl, a5, av, rfl, (okb_f (by unfold pRule pHead pRest pLong; simp only [ht, if_pos hb, h58, h09, h45, h99])), rfl, by omega⟩, rfl⟩, rfl, rfl, rfl, rfl, rfl⟩)
              · rw [h99] at hbh99
                dsimp only at hbh99
                have hvh99 := hbh99.2.2 _ rfl
                have hn1 := (mn_tn1 h99).1
                rw [(mn_tn1 h99).2 (by decide), if_neg (by decide)] at hn1
                have hrr := hrr.trans hn1
                subst hrr
                refine And.intro ir ?_
                refine And.intro ir (And.intro ir (And.intro ir ?_))
                refine (And.intro (And.intro rfl (And.intro rfl (And.intro rfl (And.intro (by decide) (by decide))))) ?_)
                refine Exists.intro f (Exists.intro R (Exists.intro ((th, tp, (nI n), (nI a5), (zb false), pl), ta, (((upd td r 1), (upd le (nI r).toNatClampNeg (nI u)), (upd ge (nI r).toNatClampNeg (nI v)), (upd re (nI r).toNatClampNeg (-1)), (upd lg (nI r).toNatClampNeg (-1)), (upd ne (nI r).toNatClampNeg 0)), (nn, nk, nr, nx), su, (wa, ot, fm, tz)), (rk, mr, un, bg, bf), kd, im) (Exists.intro n (Exists.intro a5 (Exists.intro false (Exists.intro 126 (And.intro ⟨rfl, rfl, h8, by omega⟩ (And.intro rfl (And.intro rfl (And.intro rfl (?_)))))))))))
                have hbh126 := tk_le (tb := ta) (n := n) (a := a5) (c := 126) (by decide) (by omega)
                rcases h126 : tk ta n a5 126 with ⟨_ | _, a6⟩
                · rw [h126] at hbh126
                  dsimp only at hbh126
                  refine And.intro (fun _ => ?_) (fun (z : ¬ zb false = 0) => absurd rfl z)
                  refine (And.intro (And.intro rfl (And.intro rfl (And.intro rfl (And.intro (by decide) (by decide))))) ?_)
                  refine Exists.intro f (Exists.intro R (Exists.intro ((th, tp, (nI n), (nI a6), (zb false), pl), ta, (((upd td r 1), (upd le (nI r).toNatClampNeg (nI u)), (upd ge (nI r).toNatClampNeg (nI v)), (upd re (nI r).toNatClampNeg (-1)), (upd lg (nI r).toNatClampNeg (-1)), (upd ne (nI r).toNatClampNeg 0)), (nn, nk, nr, nx), su, (wa, ot, fm, tz)), (rk, mr, un, bg, bf), kd, im) (Exists.intro n (Exists.intro a6 (Exists.intro false (Exists.intro 94 (And.intro ⟨rfl, rfl, h8, by omega⟩ (And.intro rfl (And.intro rfl (And.intro rfl (?_)))))))))))
                  have hbh94 := tk_le (tb := ta) (n := n) (a := a6) (c := 94) (by decide) (by omega)
                  rcases h94 : tk ta n a6 94 with ⟨_ | _, a8⟩
                  · rw [h94] at hbh94
                    dsimp only at hbh94
                    refine And.intro (fun _ => ?_) (fun (z : ¬ zb false = 0) => absurd rfl z)
                    exact Exists.intro (7 - 0) (And.intro trivial ⟨nI a8, zb false, pl, (((upd td r 1), (upd le (nI r).toNatClampNeg (nI u)), (upd ge (nI r).toNatClampNeg (nI v)), (upd re (nI r).toNatClampNeg (-1)), (upd lg (nI r).toNatClampNeg (-1)), (upd ne (nI r).toNatClampNeg 0)), (nn, nk, nr, nx), su, (wa, ot, fm, tz)), (by rw [er]; exact ⟨⟨lo_u (hlow.1.1) (by omega), lo_u (hlow.1.2.1) (by omega), lo_u (hlow.1.2.2.1) (by omega), lo_u (hlow.1.2.2.2.1) (by omega), lo_u (hlow.1.2.2.2.2.1) (by omega), lo_u (hlow.1.2.2.2.2.2) (by omega)⟩, ⟨hlow.2.1.1, hlow.2.1.2.1, hlow.2.1.2.2.1, hlow.2.1.2.2.2⟩, hlow.2.2.1, ⟨hlow.2.2.2.1, hlow.2.2.2.2.1, hlow.2.2.2.2.2.1, hlow.2.2.2.2.2.2⟩⟩), Or.inr ⟨0, a8, (bRule b j (nI u) (nI v)), Nat.zero_le _, rfl, ⟨rfl, rfl, rfl, by omega, (show rel 1 (bRule b j (nI u) (nI v)) (((upd td r 1), (upd le (nI r).toNatClampNeg (nI u)), (upd ge (nI r).toNatClampNeg (nI v)), (upd re (nI r).toNatClampNeg (-1)), (upd lg (nI r).toNatClampNeg (-1)), (upd ne (nI r).toNatClampNeg 0)), (nn, nk, nr, nx), su, (wa, ot, fm, tz)) from (by rw [er, hr]; exact rel_rule hrel (by omega) hb (by omega)))⟩, (fun z => hnu (by have z : upd b.1.1 j (nI u) j = -1 := z; rw [up_s] at z; exact z)), up_s, (by show pNeeds ta n j 6 _ _ = _; unfold pRule pHead pRest pLong; simp only [ht, if_pos hb, h58, h09, h45, h99, h126, h94])⟩, rfl, rfl, rfl, rfl, rfl⟩)
                  · rw [h94] at hbh94
                    dsimp only at hbh94
                    refine And.intro (fun (z : zb true = 0) => absurd z (by decide)) (fun _ => ?_)
                    refine (And.intro (And.intro rfl (And.intro rfl (And.intro rfl (And.intro (by decide) (by decide))))) ?_)
                    refine Exists.intro f (Exists.intro R (Exists.intro ((th, tp, (nI n), (nI a8), (zb false), pl), ta, (((upd td r 1), (upd le (nI r).toNatClampNeg (nI u)), (upd ge (nI r).toNatClampNeg (nI v)), (upd re (nI r).toNatClampNeg (-1)), (upd lg (nI r).toNatClampNeg (-1)), (upd ne (nI r).toNatClampNeg 0)), (nn, nk, nr, nx), su, (wa, ot, fm, tz)), (rk, mr, un, bg, bf), kd, im) (Exists.intro n (Exists.intro a8 (Exists.intro 1 (Exists.intro 48 (Exists.intro false (And.intro ⟨rfl, rfl, h8, by omega⟩ (And.intro rfl (And.intro (by omega) (And.intro (by omega) (And.intro rfl (And.intro rfl ((fun rr hrr => ?_)))))))))))))))
                    have hbh48 := tn_le (tb := ta) (n := n) (a := a8) (lo := 1) (hi := 48) h8 (by omega)
                    rcases h48 : tn ta n a8 1 48 with ⟨_ | y2, a9⟩
                    · rw [h48] at hbh48
                      dsimp only at hbh48
                      have hn0 := mn_tn0 h48
                      have hnb := mn_b (tb := ta) (n := n) (s := sk ta n a8) (lo := 1) (hi := 48)
                      have hsb := sk_big (tb := ta) (a := a8) hn
                      rw [show mn ta n (sk ta n a8) 1 48 = rr from hrr.symm] at hn0 hnb
                      obtain ⟨vv, av, FF⟩ := rr
                      dsimp only at hn0 hnb
                      subst hn0
                      refine And.intro ir ?_
                      exact Exists.intro 0 (And.intro trivial ⟨nI av, zb true, nI a9, (((upd td r 1), (upd le (nI r).toNatClampNeg (nI u)), (upd ge (nI r).toNatClampNeg (nI v)), (upd re (nI r).toNatClampNeg (-1)), (upd (upd lg (nI r).toNatClampNeg (-1)) (nI r).toNatClampNeg vv), (upd ne (nI r).toNatClampNeg 0)), (nn, nk, nr, nx), su, (wa, ot, fm, tz)), (by rw [er]; exact ⟨⟨lo_u (hlow.1.1) (by omega), lo_u (hlow.1.2.1) (by omega), lo_u (hlow.1.2.2.1) (by omega), lo_u (hlow.1.2.2.2.1) (by omega), lo_u (lo_u (hlow.1.2.2.2.2.1) (by omega)) (by omega), lo_u (hlow.1.2.2.2.2.2) (by omega)⟩, ⟨hlow.2.1.1, hlow.2.1.2.1, hlow.2.1.2.2.1, hlow.2.1.2.2.2⟩, hlow.2.2.1, ⟨hlow.2.2.2.1, hlow.2.2.2.2.1, hlow.2.2.2.2.2.1, hlow.2.2.2.2.2.2⟩⟩), Or.inl ⟨⟨rfl, a9, av, rfl, (okb_f (by unfold pRule pHead pRest pLong; simp only [ht, if_pos hb, h58, h09, h45, h99, h126, h94, h48, Option.isSome_none])), rfl, by omega⟩, rfl⟩, rfl, rfl, rfl, rfl, rfl⟩)
                    · rw [h48] at hbh48
                      dsimp only at hbh48
                      have hvh48 := hbh48.2.2 _ rfl
                      have hn1 := (mn_tn1 h48).1
                      have hrr := hrr.trans hn1
                      cases hdh48 : (dv ta n a9).isSome with
                      | true =>
                        rw [hdh48, if_pos rfl] at hrr
                        subst hrr
                        have t44 := tk_d (c := 44) h8 hdh48 (by decide)
                        have p0 : ∀ B, pNeeds ta n j 6 a9 B = (true, a9, B) := fun B => pNeeds_0 (d := 5) t44
                        refine And.intro ir ?_
                        exact Exists.intro 0 (And.intro trivial ⟨nI a9, zb true, nI a9, (((upd td r 1), (upd le (nI r).toNatClampNeg (nI u)), (upd ge (nI r).toNatClampNeg (nI v)), (upd re (nI r).toNatClampNeg (-1)), (upd (upd lg (nI r).toNatClampNeg (-1)) (nI r).toNatClampNeg (nI y2)), (upd ne (nI r).toNatClampNeg 0)), (nn, nk, nr, nx), su, (wa, ot, fm, tz)), (by rw [er]; exact ⟨⟨lo_u (hlow.1.1) (by omega), lo_u (hlow.1.2.1) (by omega), lo_u (hlow.1.2.2.1) (by omega), lo_u (hlow.1.2.2.2.1) (by omega), lo_u (lo_u (hlow.1.2.2.2.2.1) (by omega)) (by omega), lo_u (hlow.1.2.2.2.2.2) (by omega)⟩, ⟨hlow.2.1.1, hlow.2.1.2.1, hlow.2.1.2.2.1, hlow.2.1.2.2.2⟩, hlow.2.2.1, ⟨hlow.2.2.2.1, hlow.2.2.2.2.1, hlow.2.2.2.2.2.1, hlow.2.2.2.2.2.2⟩⟩), Or.inl ⟨⟨rfl, a9, a9, rfl, (okb_t (by unfold pRule pHead pRest pLong; simp only [ht, if_pos hb, h58, h09, h45, h99, h126, h94, h48, Option.isSome_some, p0]) hdh48), rfl, by omega⟩, rfl⟩, rfl, rfl, rfl, rfl, rfl⟩)
                      | false =>
                        rw [hdh48, if_neg (by decide)] at hrr
                        subst hrr
                        refine And.intro ir ?_
                        exact Exists.intro (7 - 0) (And.intro trivial ⟨nI a9, zb false, pl, (((upd td r 1), (upd le (nI r).toNatClampNeg (nI u)), (upd ge (nI r).toNatClampNeg (nI v)), (upd re (nI r).toNatClampNeg (-1)), (upd (upd lg (nI r).toNatClampNeg (-1)) (nI r).toNatClampNeg (nI y2)), (upd ne (nI r).toNatClampNeg 0)), (nn, nk, nr, nx), su, (wa, ot, fm, tz)), (by rw [er]; exact ⟨⟨lo_u (hlow.1.1) (by omega), lo_u (hlow.1.2.1) (by omega), lo_u (hlow.1.2.2.1) (by omega), lo_u (hlow.1.2.2.2.1) (by omega), lo_u (lo_u (hlow.1.2.2.2.2.1) (by omega)) (by omega), lo_u (hlow.1.2.2.2.2.2) (by omega)⟩, ⟨hlow.2.1.1, hlow.2.1.2.1, hlow.2.1.2.2.1, hlow.2.1.2.2.2⟩, hlow.2.2.1, ⟨hlow.2.2.2.1, hlow.2.2.2.2.1, hlow.2.2.2.2.2.1, hlow.2.2.2.2.2.2⟩⟩), Or.inr ⟨0, a9, ((((bRule b j (nI u) (nI v))).1.1, ((bRule b j (nI u) (nI v))).1.2.1, ((bRule b j (nI u) (nI v))).1.2.2.1, upd ((bRule b j (nI u) (nI v))).1.2.2.2.1 j (rO (some y2)), ((bRule b j (nI u) (nI v))).1.2.2.2.2), ((bRule b j (nI u) (nI v))).2), Nat.zero_le _, rfl, ⟨rfl, rfl, rfl, by omega, (by rw [er, hr]; exact rel_long (by have z := (show rel 1 (bRule b j (nI u) (nI v)) (((upd td r 1), (upd le (nI r).toNatClampNeg (nI u)), (upd ge (nI r).toNatClampNeg (nI v)), (upd re (nI r).toNatClampNeg (-1)), (upd lg (nI r).toNatClampNeg (-1)), (upd ne (nI r).toNatClampNeg 0)), (nn, nk, nr, nx), su, (wa, ot, fm, tz)) from (by rw [er, hr]; exact rel_rule hrel (by omega) hb (by omega))); rw [er, hr] at z; exact z) (nI_le (a := 0) (Nat.zero_le _) (by omega)))⟩, (fun z => hnu (by have z : upd b.1.1 j (nI u) j = -1 := z; rw [up_s] at z; exact z)), up_s, (by show pNeeds ta n j 6 _ _ = _; unfold pRule pHead pRest pLong; simp only [ht, if_pos hb, h58, h09, h45, h99, h126, h94, h48, Option.isSome_some])⟩, rfl, rfl, rfl, rfl, rfl⟩)
                · rw [h126] at hbh126
                  dsimp only at hbh126
                  refine And.intro (fun (z : zb true = 0) => absurd z (by decide)) (fun _ => ?_)
                  refine (And.intro (And.intro rfl (And.intro rfl (And.intro rfl (And.intro (by decide) (by decide))))) ?_)
                  refine Exists.intro f (Exists.intro R (Exists.intro ((th, tp, (nI n), (nI a6), (zb false), pl), ta, (((upd td r 1), (upd le (nI r).toNatClampNeg (nI u)), (upd ge (nI r).toNatClampNeg (nI v)), (upd re (nI r).toNatClampNeg (-1)), (upd lg (nI r).toNatClampNeg (-1)), (upd ne (nI r).toNatClampNeg 0)), (nn, nk, nr, nx), su, (wa, ot, fm, tz)), (rk, mr, un, bg, bf), kd, im) (Exists.intro n (Exists.intro a6 (Exists.intro 0 (Exists.intro 24 (Exists.intro false (And.intro ⟨rfl, rfl, h8, by omega⟩ (And.intro rfl (And.intro (by omega) (And.intro (by omega) (And.intro rfl (And.intro rfl ((fun rr hrr => ?_)))))))))))))))
                  have hbh24 := tn_le (tb := ta) (n := n) (a := a6) (lo := 0) (hi := 24) h8 (by omega)
                  rcases h24 : tn ta n a6 0 24 with ⟨_ | y, a7⟩
                  · rw [h24] at hbh24
                    dsimp only at hbh24
                    have hn0 := mn_tn0 h24
                    have hnb := mn_b (tb := ta) (n := n) (s := sk ta n a6) (lo := 0) (hi := 24)
                    have hsb := sk_big (tb := ta) (a := a6) hn
                    rw [show mn ta n (sk ta n a6) 0 24 = rr from hrr.symm] at hn0 hnb
                    obtain ⟨vv, av, FF⟩ := rr
                    dsimp only at hn0 hnb
                    subst hn0
                    refine And.intro ir ?_
                    refine (And.intro (And.intro rfl (And.intro rfl (And.intro rfl (And.intro (by decide) (by decide))))) ?_)
                    refine Exists.intro f (Exists.intro R (Exists.intro ((th, tp, (nI n), (nI av), (zb true), (nI a7)), ta, (((upd td r 1), (upd le (nI r).toNatClampNeg (nI u)), (upd ge (nI r).toNatClampNeg (nI v)), (upd (upd re (nI r).toNatClampNeg (-1)) (nI r).toNatClampNeg vv), (upd lg (nI r).toNatClampNeg (-1)), (upd ne (nI r).toNatClampNeg 0)), (nn, nk, nr, nx), su, (wa, ot, fm, tz)), (rk, mr, un, bg, bf), kd, im) (Exists.intro n (Exists.intro av (Exists.intro true (Exists.intro 94 (And.intro ⟨rfl, rfl, h8, by omega⟩ (And.intro rfl (And.intro rfl (And.intro rfl (?_)))))))))))
                    refine And.intro (fun _ => ?_) (fun (z : ¬ zb false = 0) => absurd rfl z)
                    exact Exists.intro 0 (And.intro trivial ⟨nI av, zb true, nI a7, (((upd td r 1), (upd le (nI r).toNatClampNeg (nI u)), (upd ge (nI r).toNatClampNeg (nI v)), (upd (upd re (nI r).toNatClampNeg (-1)) (nI r).toNatClampNeg vv), (upd lg (nI r).toNatClampNeg (-1)), (upd ne (nI r).toNatClampNeg 0)), (nn, nk, nr, nx), su, (wa, ot, fm, tz)), (by rw [er]; exact ⟨⟨lo_u (hlow.1.1) (by omega), lo_u (hlow.1.2.1) (by omega), lo_u (hlow.1.2.2.1) (by omega), lo_u (lo_u (hlow.1.2.2.2.1) (by omega)) (by omega), lo_u (hlow.1.2.2.2.2.1) (by omega), lo_u (hlow.1.2.2.2.2.2) (by omega)⟩, ⟨hlow.2.1.1, hlow.2.1.2.1, hlow.2.1.2.2.1, hlow.2.1.2.2.2⟩, hlow.2.2.1, ⟨hlow.2.2.2.1, hlow.2.2.2.2.1, hlow.2.2.2.2.2.1, hlow.2.2.2.2.2.2⟩⟩), Or.inl ⟨⟨rfl, a7, av, rfl, (okb_f (by unfold pRule pHead pRest pLong; simp only [ht, if_pos hb, h58, h09, h45, h99, h126, h24, Option.isSome_none])), rfl, by omega⟩, rfl⟩, rfl, rfl, rfl, rfl, rfl⟩)
                  · rw [h24] at hbh24
                    dsimp only at hbh24
                    have hvh24 := hbh24.2.2 _ rfl
                    have hn1 := (mn_tn1 h24).1
                    have hrr := hrr.trans hn1
                    cases hdh24 : (dv ta n a7).isSome with
                    | true =>
                      rw [hdh24, if_pos rfl] at hrr
                      subst hrr
                      have t94 := tk_d (c := 94) h8 hdh24 (by decide)
                      have t44 := tk_d (c := 44) h8 hdh24 (by decide)
                      have p0 : ∀ B, pNeeds ta n j 6 a7 B = (true, a7, B) := fun B => pNeeds_0 (d := 5) t44
                      refine And.intro ir ?_
                      refine (And.intro (And.intro rfl (And.intro rfl (And.intro rfl (And.intro (by decide) (by decide))))) ?_)
                      refine Exists.intro f (Exists.intro R (Exists.intro ((th, tp, (nI n), (nI a7), (zb true), (nI a7)), ta, (((upd td r 1), (upd le (nI r).toNatClampNeg (nI u)), (upd ge (nI r).toNatClampNeg (nI v)), (upd (upd re (nI r).toNatClampNeg (-1)) (nI r).toNatClampNeg (nI y)), (upd lg (nI r).toNatClampNeg (-1)), (upd ne (nI r).toNatClampNeg 0)), (nn, nk, nr, nx), su, (wa, ot, fm, tz)), (rk, mr, un, bg, bf), kd, im) (Exists.intro n (Exists.intro a7 (Exists.intro true (Exists.intro 94 (And.intro ⟨rfl, rfl, h8, by omega⟩ (And.intro rfl (And.intro rfl (And.intro rfl (?_)))))))))))
                      refine And.intro (fun _ => ?_) (fun (z : ¬ zb false = 0) => absurd rfl z)
                      exact Exists.intro 0 (And.intro trivial ⟨nI a7, zb true, nI a7, (((upd td r 1), (upd le (nI r).toNatClampNeg (nI u)), (upd ge (nI r).toNatClampNeg (nI v)), (upd (upd re (nI r).toNatClampNeg (-1)) (nI r).toNatClampNeg (nI y)), (upd lg (nI r).toNatClampNeg (-1)), (upd ne (nI r).toNatClampNeg 0)), (nn, nk, nr, nx), su, (wa, ot, fm, tz)), (by rw [er]; exact ⟨⟨lo_u (hlow.1.1) (by omega), lo_u (hlow.1.2.1) (by omega), lo_u (hlow.1.2.2.1) (by omega), lo_u (lo_u (hlow.1.2.2.2.1) (by omega)) (by omega), lo_u (hlow.1.2.2.2.2.1) (by omega), lo_u (hlow.1.2.2.2.2.2) (by omega)⟩, ⟨hlow.2.1.1, hlow.2.1.2.1, hlow.2.1.2.2.1, hlow.2.1.2.2.2⟩, hlow.2.2.1, ⟨hlow.2.2.2.1, hlow.2.2.2.2.1, hlow.2.2.2.2.2.1, hlow.2.2.2.2.2.2⟩⟩), Or.inl ⟨⟨rfl, a7, a7, rfl, (okb_t (by unfold pRule pHead pRest pLong; simp only [ht, if_pos hb, h58, h09, h45, h99, h126, h24, Option.isSome_some, t94, p0]) hdh24), rfl, by omega⟩, rfl⟩, rfl, rfl, rfl, rfl, rfl⟩)
                    | false =>
                      rw [hdh24, if_neg (by decide)] at hrr
                      subst hrr
                      refine And.intro ir ?_
                      refine (And.intro (And.intro rfl (And.intro rfl (And.intro rfl (And.intro (by decide) (by decide))))) ?_)
                      refine Exists.intro f (Exists.intro R (Exists.intro ((th, tp, (nI n), (nI a7), (zb false), pl), ta, (((upd td r 1), (upd le (nI r).toNatClampNeg (nI u)), (upd ge (nI r).toNatClampNeg (nI v)), (upd (upd re (nI r).toNatClampNeg (-1)) (nI r).toNatClampNeg (nI y)), (upd lg (nI r).toNatClampNeg (-1)), (upd ne (nI r).toNatClampNeg 0)), (nn, nk, nr, nx), su, (wa, ot, fm, tz)), (rk, mr, un, bg, bf), kd, im) (Exists.intro n (Exists.intro a7 (Exists.intro false (Exists.intro 94 (And.intro ⟨rfl, rfl, h8, by omega⟩ (And.intro rfl (And.intro rfl (And.intro rfl (?_)))))))))))
                      have hbh94 := tk_le (tb := ta) (n := n) (a := a7) (c := 94) (by decide) (by omega)
                      rcases h94 : tk ta n a7 94 with ⟨_ | _, a8⟩
                      · rw [h94] at hbh94
                        dsimp only at hbh94
                        refine And.intro (fun _ => ?_) (fun (z : ¬ zb false = 0) => absurd rfl z)
                        exact Exists.intro (7 - 0) (And.intro trivial ⟨nI a8, zb false, pl, (((upd td r 1), (upd le (nI r).toNatClampNeg (nI u)), (upd ge (nI r).toNatClampNeg (nI v)), (upd (upd re (nI r).toNatClampNeg (-1)) (nI r).toNatClampNeg (nI y)), (upd lg (nI r).toNatClampNeg (-1)), (upd ne (nI r).toNatClampNeg 0)), (nn, nk, nr, nx), su, (wa, ot, fm, tz)), (by rw [er]; exact ⟨⟨lo_u (hlow.1.1) (by omega), lo_u (hlow.1.2.1) (by omega), lo_u (hlow.1.2.2.1) (by omega), lo_u (lo_u (hlow.1.2.2.2.1) (by omega)) (by omega), lo_u (hlow.1.2.2.2.2.1) (by omega), lo_u (hlow.1.2.2.2.2.2) (by omega)⟩, ⟨hlow.2.1.1, hlow.2.1.2.1, hlow.2.1.2.2.1, hlow.2.1.2.2.2⟩, hlow.2.2.1, ⟨hlow.2.2.2.1, hlow.2.2.2.2.1, hlow.2.2.2.2.2.1, hlow.2.2.2.2.2.2⟩⟩), Or.inr ⟨0, a8, (((bRule b j (nI u) (nI v)).1.1, (bRule b j (nI u) (nI v)).1.2.1, upd (bRule b j (nI u) (nI v)).1.2.2.1 j (rO (some y)), (bRule b j (nI u) (nI v)).1.2.2.2), (bRule b j (nI u) (nI v)).2), Nat.zero_le _, rfl, ⟨rfl, rfl, rfl, by omega, (show rel 1 (((bRule b j (nI u) (nI v)).1.1, (bRule b j (nI u) (nI v)).1.2.1, upd (bRule b j (nI u) (nI v)).1.2.2.1 j (rO (some y)), (bRule b j (nI u) (nI v)).1.2.2.2), (bRule b j (nI u) (nI v)).2) (((upd td r 1), (upd le (nI r).toNatClampNeg (nI u)), (upd ge (nI r).toNatClampNeg (nI v)), (upd (upd re (nI r).toNatClampNeg (-1)) (nI r).toNatClampNeg (nI y)), (upd lg (nI r).toNatClampNeg (-1)), (upd ne (nI r).toNatClampNeg 0)), (nn, nk, nr, nx), su, (wa, ot, fm, tz)) from (by rw [er, hr]; exact rel_rest (rel_rule hrel (by omega) hb (by omega)) (nI_le (a := 0) (Nat.zero_le _) (by omega))))⟩, (fun z => hnu (by have z : upd b.1.1 j (nI u) j = -1 := z; rw [up_s] at z; exact z)), up_s, (by show pNeeds ta n j 6 _ _ = _; unfold pRule pHead pRest pLong; simp only [ht, if_pos hb, h58, h09, h45, h99, h126, h24, Option.isSome_some, h94])⟩, rfl, rfl, rfl, rfl, rfl⟩)
                      · rw [h94] at hbh94
                        dsimp only at hbh94
                        refine And.intro (fun (z : zb true = 0) => absurd z (by decide)) (fun _ => ?_)
                        refine (And.intro (And.intro rfl (And.intro rfl (And.intro rfl (And.intro (by decide) (by decide))))) ?_)
                        refine Exists.intro f (Exists.intro R (Exists.intro ((th, tp, (nI n), (nI a8), (zb false), pl), ta, (((upd td r 1), (upd le (nI r).toNatClampNeg (nI u)), (upd ge (nI r).toNatClampNeg (nI v)), (upd (upd re (nI r).toNatClampNeg (-1)) (nI r).toNatClampNeg (nI y)), (upd lg (nI r).toNatClampNeg (-1)), (upd ne (nI r).toNatClampNeg 0)), (nn, nk, nr, nx), su, (wa, ot, fm, tz)), (rk, mr, un, bg, bf), kd, im) (Exists.intro n (Exists.intro a8 (Exists.intro 1 (Exists.intro 48 (Exists.intro false (And.intro ⟨rfl, rfl, h8, by omega⟩ (And.intro rfl (And.intro (by omega) (And.intro (by omega) (And.intro rfl (And.intro rfl ((fun rr hrr => ?_)))))))))))))))
                        have hbh48 := tn_le (tb := ta) (n := n) (a := a8) (lo := 1) (hi := 48) h8 (by omega)
                        rcases h48 : tn ta n a8 1 48 with ⟨_ | y2, a9⟩
                        · rw [h48] at hbh48
                          dsimp only at hbh48
                          have hn0 := mn_tn0 h48
                          have hnb := mn_b (tb := ta) (n := n) (s := sk ta n a8) (lo := 1) (hi := 48)
                          have hsb := sk_big (tb := ta) (a := a8) hn
                          rw [show mn ta n (sk ta n a8) 1 48 = rr from hrr.symm] at hn0 hnb
                          obtain ⟨vv, av, FF⟩ := rr
                          dsimp only at hn0 hnb
                          subst hn0
                          refine And.intro ir ?_
                          exact Exists.intro 0 (And.intro trivial ⟨nI av, zb true, nI a9, (((upd td r 1), (upd le (nI r).toNatClampNeg (nI u)), (upd ge (nI r).toNatClampNeg (nI v)), (upd (upd re (nI r).toNatClampNeg (-1)) (nI r).toNatClampNeg (nI y)), (upd (upd lg (nI r).toNatClampNeg (-1)) (nI r).toNatClampNeg vv), (upd ne (nI r).toNatClampNeg 0)), (nn, nk, nr, nx), su, (wa, ot, fm, tz)), (by rw [er]; exact ⟨⟨lo_u (hlow.1.1) (by omega), lo_u (hlow.1.2.1) (by omega), lo_u (hlow.1.2.2.1) (by omega), lo_u (lo_u (hlow.1.2.2.2.1) (by omega)) (by omega), lo_u (lo_u (hlow.1.2.2.2.2.1) (by omega)) (by omega), lo_u (hlow.1.2.2.2.2.2) (by omega)⟩, ⟨hlow.2.1.1, hlow.2.1.2.1, hlow.2.1.2.2.1, hlow.2.1.2.2.2⟩, hlow.2.2.1, ⟨hlow.2.2.2.1, hlow.2.2.2.2.1, hlow.2.2.2.2.2.1, hlow.2.2.2.2.2.2⟩⟩), Or.inl ⟨⟨rfl, a9, av, rfl, (okb_f (by unfold pRule pHead pRest pLong; simp only [ht, if_pos hb, h58, h09, h45, h99, h126, h24, Option.isSome_some, h94, h48, Option.isSome_none])), rfl, by omega⟩, rfl⟩, rfl, rfl, rfl, rfl, rfl⟩)
                        · rw [h48] at hbh48
                          dsimp only at hbh48
                          have hvh48 := hbh48.2.2 _ rfl
                          have hn1 := (mn_tn1 h48).1
                          have hrr := hrr.trans hn1
                          cases hdh48 : (dv ta n a9).isSome with
                          | true =>
                            rw [hdh48, if_pos rfl] at hrr
                            subst hrr
                            have t44 := tk_d (c := 44) h8 hdh48 (by decide)
                            have p0 : ∀ B, pNeeds ta n j 6 a9 B = (true, a9, B) := fun B => pNeeds_0 (d := 5) t44
                            refine And.intro ir ?_
                            exact Exists.intro 0 (And.intro trivial ⟨nI a9, zb true, nI a9, (((upd td r 1), (upd le (nI r).toNatClampNeg (nI u)), (upd ge (nI r).toNatClampNeg (nI v)), (upd (upd re (nI r).toNatClampNeg (-1)) (nI r).toNatClampNeg (nI y)), (upd (upd lg (nI r).toNatClampNeg (-1)) (nI r).toNatClampNeg (nI y2)), (upd ne (nI r).toNatClampNeg 0)), (nn, nk, nr, nx), su, (wa, ot, fm, tz)), (by rw [er]; exact ⟨⟨lo_u (hlow.1.1) (by omega), lo_u (hlow.1.2.1) (by omega), lo_u (hlow.1.2.2.1) (by omega), lo_u (lo_u (hlow.1.2.2.2.1) (by omega)) (by omega), lo_u (lo_u (hlow.1.2.2.2.2.1) (by omega)) (by omega), lo_u (hlow.1.2.2.2.2.2) (by omega)⟩, ⟨hlow.2.1.1, hlow.2.1.2.1, hlow.2.1.2.2.1, hlow.2.1.2.2.2⟩, hlow.2.2.1, ⟨hlow.2.2.2.1, hlow.2.2.2.2.1, hlow.2.2.2.2.2.1, hlow.2.2.2.2.2.2⟩⟩), Or.inl ⟨⟨rfl, a9, a9, rfl, (okb_t (by unfold pRule pHead pRest pLong; simp only [ht, if_pos hb, h58, h09, h45, h99, h126, h24, Option.isSome_some, h94, h48, Option.isSome_some, p0]) hdh48), rfl, by omega⟩, rfl⟩, rfl, rfl, rfl, rfl, rfl⟩)
                          | false =>
                            rw [hdh48, if_neg (by decide)] at hrr
                            subst hrr
                            refine And.intro ir ?_
                            exact Exists.intro (7 - 0) (And.intro trivial ⟨nI a9, zb false, pl, (((upd td r 1), (upd le (nI r).toNatClampNeg (nI u)), (upd ge (nI r).toNatClampNeg (nI v)), (upd (upd re (nI r).toNatClampNeg (-1)) (nI r).toNatClampNeg (nI y)), (upd (upd lg (nI r).toNatClampNeg (-1)) (nI r).toNatClampNeg (nI y2)), (upd ne (nI r).toNatClampNeg 0)), (nn, nk, nr, nx), su, (wa, ot, fm, tz)), (by rw [er]; exact ⟨⟨lo_u (hlow.1.1) (by omega), lo_u (hlow.1.2.1) (by omega), lo_u (hlow.1.2.2.1) (by omega), lo_u (lo_u (hlow.1.2.2.2.1) (by omega)) (by omega), lo_u (lo_u (hlow.1.2.2.2.2.1) (by omega)) (by omega), lo_u (hlow.1.2.2.2.2.2) (by omega)⟩, ⟨hlow.2.1.1, hlow.2.1.2.1, hlow.2.1.2.2.1, hlow.2.1.2.2.2⟩, hlow.2.2.1, ⟨hlow.2.2.2.1, hlow.2.2.2.2.1, hlow.2.2.2.2.2.1, hlow.2.2.2.2.2.2⟩⟩), Or.inr ⟨0, a9, ((((((bRule b j (nI u) (nI v)).1.1, (bRule b j (nI u) (nI v)).1.2.1, upd (bRule b j (nI u) (nI v)).1.2.2.1 j (rO (some y)), (bRule b j (nI u) (nI v)).1.2.2.2), (bRule b j (nI u) (nI v)).2)).1.1, ((((bRule b j (nI u) (nI v)).1.1, (bRule b j (nI u) (nI v)).1.2.1, upd (bRule b j (nI u) (nI v)).1.2.2.1 j (rO (some y)), (bRule b j (nI u) (nI v)).1.2.2.2), (bRule b j (nI u) (nI v)).2)).1.2.1, ((((bRule b j (nI u) (nI v)).1.1, (bRule b j (nI u) (nI v)).1.2.1, upd (bRule b j (nI u) (nI v)).1.2.2.1 j (rO (some y)), (bRule b j (nI u) (nI v)).1.2.2.2), (bRule b j (nI u) (nI v)).2)).1.2.2.1, upd ((((bRule b j (nI u) (nI v)).1.1, (bRule b j (nI u) (nI v)).1.2.1, upd (bRule b j (nI u) (nI v)).1.2.2.1 j (rO (some y)), (bRule b j (nI u) (nI v)).1.2.2.2), (bRule b j (nI u) (nI v)).2)).1.2.2.2.1 j (rO (some y2)), ((((bRule b j (nI u) (nI v)).1.1, (bRule b j (nI u) (nI v)).1.2.1, upd (bRule b j (nI u) (nI v)).1.2.2.1 j (rO (some y)), (bRule b j (nI u) (nI v)).1.2.2.2), (bRule b j (nI u) (nI v)).2)).1.2.2.2.2), ((((bRule b j (nI u) (nI v)).1.1, (bRule b j (nI u) (nI v)).1.2.1, upd (bRule b j (nI u) (nI v)).1.2.2.1 j (rO (some y)), (bRule b j (nI u) (nI v)).1.2.2.2), (bRule b j (nI u) (nI v)).2)).2), Nat.zero_le _, rfl, ⟨rfl, rfl, rfl, by omega, (by rw [er, hr]; exact rel_long (by have z := (show rel 1 (((bRule b j (nI u) (nI v)).1.1, (bRule b j (nI u) (nI v)).1.2.1, upd (bRule b j (nI u) (nI v)).1.2.2.1 j (rO (some y)), (bRule b j (nI u) (nI v)).1.2.2.2), (bRule b j (nI u) (nI v)).2) (((upd td r 1), (upd le (nI r).toNatClampNeg (nI u)), (upd ge (nI r).toNatClampNeg (nI v)), (upd (upd re (nI r).toNatClampNeg (-1)) (nI r).toNatClampNeg (nI y)), (upd lg (nI r).toNatClampNeg (-1)), (upd ne (nI r).toNatClampNeg 0)), (nn, nk, nr, nx), su, (wa, ot, fm, tz)) from (by rw [er, hr]; exact rel_rest (rel_rule hrel (by omega) hb (by omega)) (nI_le (a := 0) (Nat.zero_le _) (by omega)))); rw [er, hr] at z; exact z) (nI_le (a := 0) (Nat.zero_le _) (by omega)))⟩, (fun z => hnu (by have z : upd b.1.1 j (nI u) j = -1 := z; rw [up_s] at z; exact z)), up_s, (by show pNeeds ta n j 6 _ _ = _; unfold pRule pHead pRest pLong; simp only [ht, if_pos hb, h58, h09, h45, h99, h126, h24, Option.isSome_some, h94, h48, Option.isSome_some])⟩, rfl, rfl, rfl, rfl, rfl⟩)
    · have htd : ¬ td r = 0 := by
        have := hrel.1 j (by omega)
        rw [decide_eq_false hb] at this
        rw [hr]
        have this : td (10 + j) = zb true := this
        rw [this]
        decide
      have hres : pRule ta n a b = (false, a1 - 1, b) := by unfold pRule pHead; simp only [ht, if_neg hb]
      refine ⟨Nat.le_of_ble_eq_true rfl, fun _ _ _ _ _ _ => False, fun _ _ _ _ _ _ h => h.elim, ?_⟩
      refine (And.intro (And.intro rfl (And.intro rfl (And.intro rfl (And.intro (by decide) (by decide))))) ?_)
      refine Exists.intro f (Exists.intro R (Exists.intro ((th, tp, (nI n), (nI a), (zb false), pl), ta, ((td, le, ge, re, lg, ne), (nn, nk, nr, nx), su, (wa, ot, fm, tz)), (rk, mr, un, bg, bf), kd, im) (Exists.intro n (Exists.intro a (Exists.intro 1 (Exists.intro 9 (Exists.intro false (And.intro ⟨rfl, rfl, h8, by omega⟩ (And.intro rfl (And.intro (by omega) (And.intro (by omega) (And.intro rfl (And.intro rfl ((fun rr hrr => ?_)))))))))))))))
      have hrr := hrr.trans e
      subst hrr
      refine And.intro (fun (z : ¬ zb false = 0) => absurd rfl z) (fun _ => ?_)
      refine And.intro ir10 ?_
      refine And.intro (fun (d : td ((10 : Int32) + nI j).toNatClampNeg = 0) => absurd (by rw [e10, er] at d; exact d) htd) (fun _ => ?_)
      refine (And.intro (And.intro rfl (And.intro rfl (And.intro rfl (And.intro (by decide) (by decide))))) ?_)
      refine Exists.intro f (Exists.intro R (Exists.intro ((th, tp, (nI n), (nI a1), (zb false), pl), ta, ((td, le, ge, re, lg, ne), (nn, nk, nr, nx), su, (wa, ot, fm, tz)), (rk, mr, un, bg, bf), kd, im) (Exists.intro false (Exists.intro (nI a1 - 1) (And.intro rfl (And.intro rfl (And.intro rfl (?_))))))))
      refine And.intro (fun (z : zb true = 0) => absurd z (by decide)) (fun _ => ?_)
      exact zz_ev0 (hk (nI a1) (zb true) (nI a1 - 1) ((td, le, ge, re, lg, ne), (nn, nk, nr, nx), su, (wa, ot, fm, tz)) lowEq_r (Or.inl ⟨rfl, a1 - 1, a1, nI_pr1 (by omega), okb_g hres, rfl, by omega⟩))
theorem recv_Mo_readRule : ∀ As ws k x, pt_Mo_readRule As ws k x → ∃ q As' fs, As = .ref q :: As' ∧ ws[q]? = some (.inr (7, fs)) := by
  rintro As ws k x ⟨f, R, t, n, a, b, hm, ha, hw, hr, rfl, rfl, hk⟩
  exact ⟨_, _, _, rfl, rfl⟩
