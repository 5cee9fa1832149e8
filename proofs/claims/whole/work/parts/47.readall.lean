/-! ===== the model: the whole text ===== -/
theorem tk_sk {tb : qA} {n a : Nat} {c : Int32} : tk tb n (sk tb n a) c = if bt tb n (sk tb n a) = c then (true, sk tb n a + 1) else (false, sk tb n a) := by
  unfold tk; rw [sk_sk]
theorem pText_e {tb : qA} {n d a : Nat} {b : qB} (h : bt tb n (sk tb n a) = -1) : (pText tb n d a b).1 = -1 ∧ (pText tb n d a b).2.2 = b := by
  cases d with
  | zero => exact ⟨rfl, rfl⟩
  | succ d => unfold pText; rw [if_pos h]; exact ⟨rfl, rfl⟩
theorem pText_v {tb : qA} {n d a : Nat} {b : qB} (h : bt tb n (sk tb n a) = 118) : pText tb n (d + 1) a b = (match pRule tb n (sk tb n a + 1) b with
      | (false, a2, b2) => (nI a2, a2, b2)
      | (true, a2, b2) => match tk tb n a2 59 with
        | (false, a3) => (nI a3, a3, b2)
        | (true, a3) => pText tb n d a3 b2) := by
  show (if bt tb n (sk tb n a) = -1 then _ else _) = _
  rw [if_neg (by rw [h]; decide), tk_sk, if_pos h]
  rfl
theorem pText_s {tb : qA} {n d a : Nat} {b : qB} (h : bt tb n (sk tb n a) = 115) (hs : ¬ 10 ≤ b.2.2.2.2) : pText tb n (d + 1) a b = (match pSub tb n (sk tb n a + 1) b with
      | (false, a2, b2) => (nI a2, a2, b2)
      | (true, a2, b2) => match tk tb n a2 59 with
        | (false, a3) => (nI a3, a3, b2)
        | (true, a3) => pText tb n d a3 b2) := by
  show (if bt tb n (sk tb n a) = -1 then _ else _) = _
  rw [if_neg (by rw [h]; decide), tk_sk, if_neg (by rw [h]; decide)]
  dsimp only
  rw [if_neg hs, tk_sk, if_pos h]
  rfl
theorem pText_x {tb : qA} {n d a : Nat} {b : qB} (h0 : ¬ bt tb n (sk tb n a) = -1) (h : ¬ bt tb n (sk tb n a) = 118) (hs : ¬ bt tb n (sk tb n a) = 115 ∨ 10 ≤ b.2.2.2.2) : (pText tb n (d + 1) a b).1 = nI (sk tb n a) := by
  unfold pText
  rw [if_neg h0, tk_sk, if_neg h]
  dsimp only
  by_cases c : 10 ≤ b.2.2.2.2
  · rw [if_pos c]
  · rw [if_neg c, tk_sk, if_neg (hs.resolve_right c)]
theorem pRow_b {tb : qA} {n d p : Nat} (h8 : by8 tb n) {res : Bool × Nat × qB} (h : okb tb n res p) : (match res with
      | (false, a2, b2) => (nI a2, a2, b2)
      | (true, a2, b2) => match tk tb n a2 59 with
        | (false, a3) => (nI a3, a3, b2)
        | (true, a3) => pText tb n d a3 b2).1 = nI p := by
  obtain ⟨r1, r2, r3⟩ := res
  obtain ⟨h1, h2⟩ := h
  dsimp only at h1 h2
  subst h1
  cases r1 with
  | false => rfl
  | true =>
    dsimp only
    rw [tk_d (c := 59) h8 (h2 rfl) (by decide)]
theorem bt_in {tb : qA} {n i : Nat} (h : ¬ bt tb n i = -1) : i < n := by
  rcases Nat.lt_or_ge i n with q | q
  · exact q
  · exact absurd (show bt tb n i = -1 from if_neg (by omega)) h
theorem nI_nm {p : Nat} (h : p < 1000) : ¬ nI p = -1 := fun z => by
  rw [zn_eq, nI_toInt (by omega), show (-1 : Int32).toInt = -1 by decide] at z
  omega
/-- told cleared from 10 on below j -/
def cl (td : qA) (j : Nat) : qA := fun i => if 10 ≤ i ∧ i < j then 0 else td i
theorem cl_0 {td : qA} : cl td 10 = td := funext fun i => if_neg (by omega)
theorem cl_s {td : qA} {j : Nat} (h : 10 ≤ j) : upd (cl td j) j 0 = cl td (j + 1) := funext fun i => by
  unfold upd cl
  by_cases e : i = j
  · rw [if_pos e, if_pos (by omega)]
  · rw [if_neg e]
    by_cases c : 10 ≤ i ∧ i < j
    · rw [if_pos c, if_pos (by omega)]
    · rw [if_neg c, if_neg (by omega)]
theorem rel_clear {b : qB} {l : qA} {td le ge re lg ne su : qA} {N S : qA × qA × qA × qA} (hl : ∀ j, j < 10 → l j = -1) (hs : su 1 = 0) : rel 1 (bClear b l) ((cl td 20, le, ge, re, lg, ne), N, su, S) := by
  refine ⟨fun j hj => ?_, fun j hj h => absurd (hl j hj) h, ⟨0, by decide, rfl, hs, fun i hi => absurd hi (by omega)⟩, ?_⟩
  · show cl td 20 (10 * 1 + j) = zb (!decide (l j = -1))
    rw [hl j hj]
    exact if_pos (by omega)
  · show (0 : Int32) = nI (nN (fun j => !decide (l j = -1)) 10)
    rw [nN_c (g := fun _ => false) (fun i hi => by (try dsimp only); rw [hl i hi]; rfl)]
    decide
def pt_Mo_readAll : zz_PT := fun As ws k _ => ∃ (f : Nat → va_E) (R : List va_E) (t : qM) (n : Nat) (b : qB) (l : qA), t.1.2.2.1 = nI n ∧ by8 t.2.1 n ∧ (∀ j, j < 10 → l j = -1) ∧ As = [.ref 46] ∧ ws = gW f t R ∧ ∀ (aa wr pl : Int32) (H : qH), lowEq t.2.2.1 H → ((wr = zb true ∧ ¬ (pText t.2.1 n 300 0 (bClear b l)).1 = -1 ∧ pl = (pText t.2.1 n 300 0 (bClear b l)).1) ∨ (wr = zb false ∧ (pText t.2.1 n 300 0 (bClear b l)).1 = -1 ∧ pl = -1 ∧ rel 1 (pText t.2.1 n 300 0 (bClear b l)).2.2 H)) → k none (gW f (rT t aa wr pl H) R)
def iMo_readAll0 (f : Nat → va_E) (R : List va_E) (t : qM) : Nat → zz_Q := fun z ls st ws nc ns => ∃ j, 10 ≤ j ∧ j ≤ 20 ∧ z = 1000 + (20 - j) ∧ ls = [some (.ref 46), some (.int (nI j))] ∧ st = [] ∧ ws = gW f (t.1, t.2.1, ((cl t.2.2.1.1.1 j, t.2.2.1.1.2), t.2.2.1.2), t.2.2.2) R ∧ nc = 0 ∧ ns = 0
def iMo_readAll1 (f : Nat → va_E) (R : List va_E) (t : qM) (n : Nat) (res : Int32 × Nat × qB) : Nat → zz_Q := fun z ls st ws nc ns => ∃ (c aa wr pl : Int32) (H : qH), lowEq t.2.2.1 H ∧ ((wr = zb true ∧ ¬ res.1 = -1 ∧ pl = res.1 ∧ z = 0) ∨ ∃ (d a : Nat) (b : qB), wr = zb false ∧ pl = -1 ∧ a ≤ n ∧ n - a ≤ d ∧ z = d + 1 ∧ d ≤ 300 ∧ aa = nI (sk t.2.1 n a) ∧ c = bt t.2.1 n (sk t.2.1 n a) ∧ rel 1 b H ∧ pText t.2.1 n d a b = res) ∧ ls = [some (.ref 46), some (.int c)] ∧ st = [] ∧ ws = gW f (rT t aa wr pl H) R ∧ nc = 0 ∧ ns = 0
set_option maxHeartbeats 4000000 in
set_option maxRecDepth 100000 in
theorem m_Mo_readAll (l : Launch) : zz_M zz_CL l y_Mo_readAll (Cond.code y_Mo_readAll c_Mo_readAll 2 none :: zz_big) (zz_rm 5 109 1 6) (1, false, 0, 0, pt_Mo_readAll) := by
  refine zz_M_of (HOST := "CrewRules") (L := [(0, 108, (1, false, 0, 0, pt_Mo_see)), (0, 133, (1, false, 0, 0, pt_Mo_readRule)), (0, 124, (2, false, 0, 0, pt_Mo_expect)), (0, 136, (1, false, 0, 0, pt_Mo_substitute)), (0, 112, (2, false, 0, 0, pt_Mo_fail))]) (sw := sw_Mo_readAll) (pg := pg_Mo_readAll) (th := th_Mo_readAll) (ini := false) (by decide +kernel) zz_static (fun h => nomatch h) (by decide) (by decide) ok_Mo_readAll (zz_cons (zz_ev_V (m_Mo_see l) yw_Mo_see yv_Mo_see lk_Mo_108 ⟨rfl, rfl, by decide, by decide⟩ (ci := 7) rfl recv_Mo_see) (zz_cons (zz_ev_V (m_Mo_readRule l) yw_Mo_readRule yv_Mo_readRule lk_Mo_133 ⟨rfl, rfl, by decide, by decide⟩ (ci := 7) rfl recv_Mo_readRule) (zz_cons (zz_ev_V (m_Mo_expect l) yw_Mo_expect yv_Mo_expect lk_Mo_124 ⟨rfl, rfl, by decide, by decide⟩ (ci := 7) rfl recv_Mo_expect) (zz_cons (zz_ev_V (m_Mo_substitute l) yw_Mo_substitute yv_Mo_substitute lk_Mo_136 ⟨rfl, rfl, by decide, by decide⟩ (ci := 7) rfl recv_Mo_substitute) (zz_cons (zz_ev_V (m_Mo_fail l) yw_Mo_fail yv_Mo_fail lk_Mo_112 ⟨rfl, rfl, by decide, by decide⟩ (ci := 7) rfl recv_Mo_fail) zz_nil))))) (fun pc E h => (nomatch h)) (zz_VCn 200 ?_)
  rintro As ws k x ⟨f, R, ⟨⟨th, tp, ln, aa, wr, pl⟩, ta, ⟨⟨td, le, ge, re, lg, ne⟩, ⟨nn, nk, nr, nx⟩, su, ⟨wa, ot, fm, tz⟩⟩, ⟨rk, mr, un, bg, bf⟩, kd, im⟩, n, b, l, h1, h8, hl, rfl, rfl, hk⟩
  dsimp only at h1 h8 hk
  subst h1
  have hn := h8.1
  refine ⟨Nat.le_of_ble_eq_true rfl, [(3, [true, true], iMo_readAll0 f R ((th, tp, (nI n), aa, wr, pl), ta, ((td, le, ge, re, lg, ne), (nn, nk, nr, nx), su, (wa, ot, fm, tz)), (rk, mr, un, bg, bf), kd, im)), (49, [true, true], iMo_readAll1 f R ((th, tp, (nI n), aa, wr, pl), ta, ((td, le, ge, re, lg, ne), (nn, nk, nr, nx), su, (wa, ot, fm, tz)), (rk, mr, un, bg, bf), kd, im) n (pText ta n 300 0 (bClear b l)))], zz_al1 ⟨rfl, ?_⟩ (zz_al1 ⟨rfl, ?_⟩ zz_al0), ?_⟩
  · skip
    rintro z ls st ws nc ns ⟨j, hj10, hj, rfl, rfl, rfl, rfl, rfl, rfl⟩
    refine And.intro (fun (c1 : 20 ≤ nI j) => ?_) (fun (c1 : ¬ 20 ≤ nI j) => ?_)
    · have : j = 20 := by
        have := (nI_leI (a := 20) (by decide) (by omega)).mp c1
        omega
      subst this
      refine And.intro (zn_in (i := 1) (by decide) (by decide)) ?_
      refine (And.intro (And.intro rfl (And.intro rfl (And.intro rfl (And.intro (by decide) (by decide))))) ?_)
      refine Exists.intro f (Exists.intro R (Exists.intro ((th, tp, (nI n), 0, 0, (-1)), ta, (((cl td 20), le, ge, re, lg, ne), (nn, nk, nr, nx), (upd su 1 0), (wa, ot, fm, tz)), (rk, mr, un, bg, bf), kd, im) (Exists.intro n (Exists.intro 0 (And.intro ⟨rfl, rfl, h8, by decide⟩ (And.intro rfl (And.intro rfl (?_))))))))
      have hlowc : lowEq ((td, le, ge, re, lg, ne), (nn, nk, nr, nx), su, (wa, ot, fm, tz)) (((cl td 20), le, ge, re, lg, ne), (nn, nk, nr, nx), (upd su 1 0), (wa, ot, fm, tz)) := ⟨⟨fun i hi => if_neg (by omega), lo_r, lo_r, lo_r, lo_r, lo_r⟩, ⟨lo_r, lo_r, lo_r, lo_r⟩, lo_u lo_r (by decide), ⟨lo_r, lo_r, lo_r, lo_r⟩⟩
      exact Exists.intro 301 (And.intro (by show 301 < 1000 + (20 - 20); decide) ⟨bt ta n (sk ta n 0), nI (sk ta n 0), zb false, -1, (((cl td 20), le, ge, re, lg, ne), (nn, nk, nr, nx), (upd su 1 0), (wa, ot, fm, tz)), hlowc, Or.inr ⟨300, 0, bClear b l, rfl, rfl, Nat.zero_le _, by omega, rfl, by decide, rfl, rfl, rel_clear hl up_s, rfl⟩, rfl, rfl, rfl, rfl, rfl⟩)
    · have hj2 : j < 20 := Nat.lt_of_not_le (fun z : 20 ≤ j => c1 (nI_le z (by omega)))
      refine And.intro (zn_in hj2 (by decide)) ?_
      refine Exists.intro (1000 + (20 - (j + 1))) (And.intro (by show 1000 + (20 - (j + 1)) < 1000 + (20 - j); omega) ⟨j + 1, by omega, hj2, rfl, (by rw [← nI_1 j]; rfl), rfl, ?_, rfl, rfl⟩)
      dsimp only
      rw [show cl td (j + 1) = upd (cl td j) (nI j).toNatClampNeg 0 by rw [nI_clamp (by omega), cl_s hj10]]
      rfl
  · skip
    rintro z ls st ws nc ns ⟨c, aa, wr, pl1, ⟨⟨td, le, ge, re, lg, ne⟩, ⟨nn, nk, nr, nx⟩, su, ⟨wa, ot, fm, tz⟩⟩, hlow, hor, rfl, rfl, rfl, rfl, rfl⟩
    dsimp only at hlow
    rcases hor with ⟨rfl, hr1, rfl, rfl⟩ | ⟨d, a', b', rfl, rfl, ha', hd, rfl, hd3, rfl, rfl, hrel', hres⟩
    · refine And.intro (fun _ => ?_) (fun (z : zb true = 0) => absurd z (by decide))
      exact zz_ev0 (hk _ _ _ ((td, le, ge, re, lg, ne), (nn, nk, nr, nx), su, (wa, ot, fm, tz)) hlow (Or.inl ⟨rfl, hr1, rfl⟩))
    · dsimp only at hres ⊢
      refine And.intro (fun (z : ¬ zb false = 0) => absurd rfl z) (fun _ => ?_)
      have hskb := sk_b (tb := ta) (n := n) (a := a') ha'
      refine And.intro (fun (c1 : bt ta n (sk ta n a') = -1) => ?_) (fun (c1 : ¬ bt ta n (sk ta n a') = -1) => ?_)
      · have he := pText_e (d := d) (b := b') c1
        rw [hres] at he
        rw [← he.2] at hrel'
        exact zz_ev0 (hk _ _ _ ((td, le, ge, re, lg, ne), (nn, nk, nr, nx), su, (wa, ot, fm, tz)) hlow (Or.inr ⟨rfl, he.1, rfl, hrel'⟩))
      · have hlt := bt_in c1
        obtain ⟨d, rfl⟩ : ∃ d', d = d' + 1 := ⟨d - 1, by omega⟩
        refine And.intro (fun (c2 : ¬ bt ta n (sk ta n a') = 118) => ?_) (fun (c2 : bt ta n (sk ta n a') = 118) => ?_)
        · refine And.intro (fun (c3 : ¬ bt ta n (sk ta n a') = 115) => ?_) (fun (c3 : bt ta n (sk ta n a') = 115) => ?_)
          · have hX := pText_x (d := d) (b := b') c1 c2 (Or.inl c3)
            refine (And.intro (And.intro rfl (And.intro rfl (And.intro rfl (And.intro (by decide) (by decide))))) ?_)
            refine Exists.intro f (Exists.intro R (Exists.intro ((th, tp, (nI n), (nI (sk ta n a')), (zb false), (-1)), ta, ((td, le, ge, re, lg, ne), (nn, nk, nr, nx), su, (wa, ot, fm, tz)), (rk, mr, un, bg, bf), kd, im) (Exists.intro false (Exists.intro (nI (sk ta n a')) (And.intro rfl (And.intro rfl (And.intro rfl (?_))))))))
            refine And.intro (fun (z : zb true = 0) => absurd z (by decide)) (fun _ => ?_)
            exact Exists.intro 0 (And.intro (by show 0 < d + 1 + 1; omega) ⟨-1, nI (sk ta n a'), zb true, nI (sk ta n a'), ((td, le, ge, re, lg, ne), (nn, nk, nr, nx), su, (wa, ot, fm, tz)), hlow, Or.inl ⟨rfl, (by rw [← hres, hX]; exact nI_nm (by omega)), (by rw [← hres, hX]), rfl⟩, rfl, rfl, rfl, rfl, rfl⟩)
          · obtain ⟨q, hq, hbq, hsu, -⟩ := hrel'.2.2.1
            have hsu : su 1 = nI q := hsu
            refine And.intro (zn_in (i := 1) (by decide) (by decide)) ?_
            refine And.intro (fun (c4 : 10 ≤ su 1) => ?_) (fun (c4 : ¬ 10 ≤ su 1) => ?_)
            · have hX := pText_x (d := d) (b := b') c1 c2 (Or.inr (by rw [hbq, ← hsu]; exact c4))
              refine (And.intro (And.intro rfl (And.intro rfl (And.intro rfl (And.intro (by decide) (by decide))))) ?_)
              refine Exists.intro f (Exists.intro R (Exists.intro ((th, tp, (nI n), (nI (sk ta n a')), (zb false), (-1)), ta, ((td, le, ge, re, lg, ne), (nn, nk, nr, nx), su, (wa, ot, fm, tz)), (rk, mr, un, bg, bf), kd, im) (Exists.intro false (Exists.intro (nI (sk ta n a')) (And.intro rfl (And.intro rfl (And.intro rfl (?_))))))))
              refine And.intro (fun (z : zb true = 0) => absurd z (by decide)) (fun _ => ?_)
              exact Exists.intro 0 (And.intro (by show 0 < d + 1 + 1; omega) ⟨-1, nI (sk ta n a'), zb true, nI (sk ta n a'), ((td, le, ge, re, lg, ne), (nn, nk, nr, nx), su, (wa, ot, fm, tz)), hlow, Or.inl ⟨rfl, (by rw [← hres, hX]; exact nI_nm (by omega)), (by rw [← hres, hX]), rfl⟩, rfl, rfl, rfl, rfl, rfl⟩)
            · rw [hsu] at c4
              have hq10 : q < 10 := Nat.lt_of_not_le (fun z : 10 ≤ q => c4 (nI_le z (by omega)))
              have hT := pText_s (d := d) (b := b') c3 (by rw [hbq]; exact c4)
              refine (And.intro (And.intro rfl (And.intro rfl (And.intro rfl (And.intro (by decide) (by decide))))) ?_)
              refine Exists.intro f (Exists.intro R (Exists.intro ((th, tp, (nI n), (nI (sk ta n a') + 1), (zb false), (-1)), ta, ((td, le, ge, re, lg, ne), (nn, nk, nr, nx), su, (wa, ot, fm, tz)), (rk, mr, un, bg, bf), kd, im) (Exists.intro n (Exists.intro (sk ta n a' + 1) (Exists.intro q (Exists.intro b' (And.intro ⟨rfl, nI_1 _, h8, by omega⟩ (And.intro (by omega) (And.intro rfl (And.intro hrel' (And.intro hq10 (And.intro hbq (And.intro rfl (And.intro rfl (?_)))))))))))))))
              rintro aa2 wr2 pl2 ⟨⟨td, le, ge, re, lg, ne⟩, ⟨nn, nk, nr, nx⟩, su, ⟨wa, ot, fm, tz⟩⟩ hlow2 hor2
              dsimp only at hlow2 hor2
              have hlow := lowEq_t hlow hlow2
              rcases hor2 with ⟨rfl, p, a2, rfl, hok, rfl, ha2⟩ | ⟨ht1, rfl, hpl, rfl, ha2, hrel2⟩
              · have hp := (pSub_ok (tb := ta) (n := n) (a := sk ta n a' + 1) (b := b') h8 (by omega) hq10 hbq).2.1
                rw [hok.1] at hp
                have hT1 := pRow_b (d := d) h8 hok
                rw [← hT, hres] at hT1
                refine (And.intro (And.intro rfl (And.intro rfl (And.intro rfl (And.intro (by decide) (by decide))))) ?_)
                refine Exists.intro f (Exists.intro R (Exists.intro ((th, tp, (nI n), (nI a2), (zb true), (nI p)), ta, ((td, le, ge, re, lg, ne), (nn, nk, nr, nx), su, (wa, ot, fm, tz)), (rk, mr, un, bg, bf), kd, im) (Exists.intro n (Exists.intro a2 (Exists.intro true (Exists.intro 59 (And.intro ⟨rfl, rfl, h8, by omega⟩ (And.intro rfl (And.intro rfl (And.intro rfl (?_)))))))))))
                rw [mE_w (t := ((th, tp, (nI n), (nI a2), (zb true), (nI p)), ta, ((td, le, ge, re, lg, ne), (nn, nk, nr, nx), su, (wa, ot, fm, tz)), (rk, mr, un, bg, bf), kd, im)) rfl]
                refine And.intro (fun (z : zb true = 0) => absurd z (by decide)) (fun _ => ?_)
                exact Exists.intro 0 (And.intro (by show 0 < d + 1 + 1; omega) ⟨-1, nI (sk ta n a2 + 1), zb true, nI p, ((td, le, ge, re, lg, ne), (nn, nk, nr, nx), su, (wa, ot, fm, tz)), hlow, Or.inl ⟨rfl, (by rw [hT1]; exact nI_nm (by omega)), hT1.symm, rfl⟩, rfl, rfl, rfl, rfl, rfl⟩)
              · have hpl : pl2 = -1 := hpl
                subst hpl
                have hok := (pSub_ok (tb := ta) (n := n) (a := sk ta n a' + 1) (b := b') h8 (by omega) hq10 hbq).2.1
                have hge := (pSub_ok (tb := ta) (n := n) (a := sk ta n a' + 1) (b := b') h8 (by omega) hq10 hbq).1
                rcases hq : pSub ta n (sk ta n a' + 1) b' with ⟨_ | _, a2, b2⟩
                · rw [hq] at ht1; cases ht1
                rw [hq] at hrel2 ha2 hT hok hge
                dsimp only at hrel2 ha2 hT hok hge ⊢
                refine (And.intro (And.intro rfl (And.intro rfl (And.intro rfl (And.intro (by decide) (by decide))))) ?_)
                refine Exists.intro f (Exists.intro R (Exists.intro ((th, tp, (nI n), (nI a2), (zb false), (-1)), ta, ((td, le, ge, re, lg, ne), (nn, nk, nr, nx), su, (wa, ot, fm, tz)), (rk, mr, un, bg, bf), kd, im) (Exists.intro n (Exists.intro a2 (Exists.intro false (Exists.intro 59 (And.intro ⟨rfl, rfl, h8, by omega⟩ (And.intro rfl (And.intro rfl (And.intro rfl (?_)))))))))))
                have hb59 := tk_le (tb := ta) (n := n) (a := a2) (c := 59) (by decide) (by omega)
                rcases h59 : tk ta n a2 59 with ⟨_ | _, a3⟩
                · rw [h59] at hb59 hT
                  dsimp only at hb59 hT
                  rw [mE_f (t := ((th, tp, (nI n), (nI a2), (zb false), (-1)), ta, ((td, le, ge, re, lg, ne), (nn, nk, nr, nx), su, (wa, ot, fm, tz)), (rk, mr, un, bg, bf), kd, im)) h59]
                  refine And.intro (fun (z : zb true = 0) => absurd z (by decide)) (fun _ => ?_)
                  exact Exists.intro 0 (And.intro (by show 0 < d + 1 + 1; omega) ⟨-1, nI (a3 + 1), zb true, nI a3, ((td, le, ge, re, lg, ne), (nn, nk, nr, nx), su, (wa, ot, fm, tz)), hlow, Or.inl ⟨rfl, (by rw [← hres, hT]; exact nI_nm (by omega)), (by rw [← hres, hT]), rfl⟩, rfl, rfl, rfl, rfl, rfl⟩)
                · rw [h59] at hb59 hT
                  dsimp only at hb59 hT
                  have h3 := hb59.2.2 rfl
                  rw [mE_t (t := ((th, tp, (nI n), (nI a2), (zb false), (-1)), ta, ((td, le, ge, re, lg, ne), (nn, nk, nr, nx), su, (wa, ot, fm, tz)), (rk, mr, un, bg, bf), kd, im)) h59]
                  refine And.intro (fun _ => ?_) (fun (z : ¬ zb false = 0) => absurd rfl z)
                  refine (And.intro (And.intro rfl (And.intro rfl (And.intro rfl (And.intro (by decide) (by decide))))) ?_)
                  refine Exists.intro f (Exists.intro R (Exists.intro ((th, tp, (nI n), (nI a3), (zb false), (-1)), ta, ((td, le, ge, re, lg, ne), (nn, nk, nr, nx), su, (wa, ot, fm, tz)), (rk, mr, un, bg, bf), kd, im) (Exists.intro n (Exists.intro a3 (And.intro ⟨rfl, rfl, h8, by omega⟩ (And.intro rfl (And.intro rfl (?_))))))))
                  exact Exists.intro (d + 1) (And.intro (by show d + 1 < d + 1 + 1; omega) ⟨bt ta n (sk ta n a3), nI (sk ta n a3), zb false, -1, ((td, le, ge, re, lg, ne), (nn, nk, nr, nx), su, (wa, ot, fm, tz)), hlow, Or.inr ⟨d, a3, b2, rfl, rfl, by omega, by omega, rfl, by omega, rfl, rfl, hrel2, by rw [← hT]; exact hres⟩, rfl, rfl, rfl, rfl, rfl⟩)
        · have hT := pText_v (d := d) (b := b') c2
          refine (And.intro (And.intro rfl (And.intro rfl (And.intro rfl (And.intro (by decide) (by decide))))) ?_)
          refine Exists.intro f (Exists.intro R (Exists.intro ((th, tp, (nI n), (nI (sk ta n a') + 1), (zb false), (-1)), ta, ((td, le, ge, re, lg, ne), (nn, nk, nr, nx), su, (wa, ot, fm, tz)), (rk, mr, un, bg, bf), kd, im) (Exists.intro n (Exists.intro (sk ta n a' + 1) (Exists.intro b' (And.intro ⟨rfl, nI_1 _, h8, by omega⟩ (And.intro (by omega) (And.intro rfl (And.intro hrel' (And.intro rfl (And.intro rfl (?_))))))))))))
          rintro aa2 wr2 pl2 ⟨⟨td, le, ge, re, lg, ne⟩, ⟨nn, nk, nr, nx⟩, su, ⟨wa, ot, fm, tz⟩⟩ hlow2 hor2
          dsimp only at hlow2 hor2
          have hlow := lowEq_t hlow hlow2
          rcases hor2 with ⟨rfl, p, a2, rfl, hok, rfl, ha2⟩ | ⟨ht1, rfl, hpl, rfl, ha2, hrel2⟩
          · have hp := (pRule_ok (tb := ta) (n := n) (a := sk ta n a' + 1) (b := b') h8 (by omega)).2.1
            rw [hok.1] at hp
            have hT1 := pRow_b (d := d) h8 hok
            rw [← hT, hres] at hT1
            refine (And.intro (And.intro rfl (And.intro rfl (And.intro rfl (And.intro (by decide) (by decide))))) ?_)
            refine Exists.intro f (Exists.intro R (Exists.intro ((th, tp, (nI n), (nI a2), (zb true), (nI p)), ta, ((td, le, ge, re, lg, ne), (nn, nk, nr, nx), su, (wa, ot, fm, tz)), (rk, mr, un, bg, bf), kd, im) (Exists.intro n (Exists.intro a2 (Exists.intro true (Exists.intro 59 (And.intro ⟨rfl, rfl, h8, by omega⟩ (And.intro rfl (And.intro rfl (And.intro rfl (?_)))))))))))
            rw [mE_w (t := ((th, tp, (nI n), (nI a2), (zb true), (nI p)), ta, ((td, le, ge, re, lg, ne), (nn, nk, nr, nx), su, (wa, ot, fm, tz)), (rk, mr, un, bg, bf), kd, im)) rfl]
            refine And.intro (fun (z : zb true = 0) => absurd z (by decide)) (fun _ => ?_)
            exact Exists.intro 0 (And.intro (by show 0 < d + 1 + 1; omega) ⟨-1, nI (sk ta n a2 + 1), zb true, nI p, ((td, le, ge, re, lg, ne), (nn, nk, nr, nx), su, (wa, ot, fm, tz)), hlow, Or.inl ⟨rfl, (by rw [hT1]; exact nI_nm (by omega)), hT1.symm, rfl⟩, rfl, rfl, rfl, rfl, rfl⟩)
          · have hpl : pl2 = -1 := hpl
            subst hpl
            have hok := (pRule_ok (tb := ta) (n := n) (a := sk ta n a' + 1) (b := b') h8 (by omega)).2.1
            have hge := (pRule_ok (tb := ta) (n := n) (a := sk ta n a' + 1) (b := b') h8 (by omega)).1
            rcases hq : pRule ta n (sk ta n a' + 1) b' with ⟨_ | _, a2, b2⟩
            · rw [hq] at ht1; cases ht1
            rw [hq] at hrel2 ha2 hT hok hge
            dsimp only at hrel2 ha2 hT hok hge ⊢
            refine (And.intro (And.intro rfl (And.intro rfl (And.intro rfl (And.intro (by decide) (by decide))))) ?_)
            refine Exists.intro f (Exists.intro R (Exists.intro ((th, tp, (nI n), (nI a2), (zb false), (-1)), ta, ((td, le, ge, re, lg, ne), (nn, nk, nr, nx), su, (wa, ot, fm, tz)), (rk, mr, un, bg, bf), kd, im) (Exists.intro n (Exists.intro a2 (Exists.intro false (Exists.intro 59 (And.intro ⟨rfl, rfl, h8, by omega⟩ (And.intro rfl (And.intro rfl (And.intro rfl (?_)))))))))))
            have hb59 := tk_le (tb := ta) (n := n) (a := a2) (c := 59) (by decide) (by omega)
            rcases h59 : tk ta n a2 59 with ⟨_ | _, a3⟩
            · rw [h59] at hb59 hT
              dsimp only at hb59 hT
              rw [mE_f (t := ((th, tp, (nI n), (nI a2), (zb false), (-1)), ta, ((td, le, ge, re, lg, ne), (nn, nk, nr, nx), su, (wa, ot, fm, tz)), (rk, mr, un, bg, bf), kd, im)) h59]
              refine And.intro (fun (z : zb true = 0) => absurd z (by decide)) (fun _ => ?_)
              exact Exists.intro 0 (And.intro (by show 0 < d + 1 + 1; omega) ⟨-1, nI (a3 + 1), zb true, nI a3, ((td, le, ge, re, lg, ne), (nn, nk, nr, nx), su, (wa, ot, fm, tz)), hlow, Or.inl ⟨rfl, (by rw [← hres, hT]; exact nI_nm (by omega)), (by rw [← hres, hT]), rfl⟩, rfl, rfl, rfl, rfl, rfl⟩)
            · rw [h59] at hb59 hT
              dsimp only at hb59 hT
              have h3 := hb59.2.2 rfl
              rw [mE_t (t := ((th, tp, (nI n), (nI a2), (zb false), (-1)), ta, ((td, le, ge, re, lg, ne), (nn, nk, nr, nx), su, (wa, ot, fm, tz)), (rk, mr, un, bg, bf), kd, im)) h59]
              refine And.intro (fun _ => ?_) (fun (z : ¬ zb false = 0) => absurd rfl z)
              refine (And.intro (And.intro rfl (And.intro rfl (And.intro rfl (And.intro (by decide) (by decide))))) ?_)
              refine Exists.intro f (Exists.intro R (Exists.intro ((th, tp, (nI n), (nI a3), (zb false), (-1)), ta, ((td, le, ge, re, lg, ne), (nn, nk, nr, nx), su, (wa, ot, fm, tz)), (rk, mr, un, bg, bf), kd, im) (Exists.intro n (Exists.intro a3 (And.intro ⟨rfl, rfl, h8, by omega⟩ (And.intro rfl (And.intro rfl (?_))))))))
              exact Exists.intro (d + 1) (And.intro (by show d + 1 < d + 1 + 1; omega) ⟨bt ta n (sk ta n a3), nI (sk ta n a3), zb false, -1, ((td, le, ge, re, lg, ne), (nn, nk, nr, nx), su, (wa, ot, fm, tz)), hlow, Or.inr ⟨d, a3, b2, rfl, rfl, by omega, by omega, rfl, by omega, rfl, rfl, hrel2, by rw [← hT]; exact hres⟩, rfl, rfl, rfl, rfl, rfl⟩)
  · exact Exists.intro (1000 + (20 - 10)) (And.intro trivial ⟨10, by decide, by decide, rfl, rfl, rfl, (by (try dsimp only); rw [cl_0]), rfl, rfl⟩)
theorem recv_Mo_readAll : ∀ As ws k x, pt_Mo_readAll As ws k x → ∃ q As' fs, As = .ref q :: As' ∧ ws[q]? = some (.inr (7, fs)) := by
  rintro As ws k x ⟨f, R, t, n, b, l, h1, h8, hl, rfl, rfl, hk⟩
  exact ⟨_, _, _, rfl, rfl⟩
/-- copied from o on below j -/
def cp (x : qA) (o j : Nat) : qA := fun i => if i < j then x (o + i) else x i
def cpb (x : qA) (o j : Nat) : qA := fun i => if i < j then vp_nar .boolean (x (o + i)) else x i
theorem cp_s {x : qA} {o j : Nat} (h : j < o) : upd (cp x o j) j (cp x o j (o + j)) = cp x o (j + 1) := funext fun i => by
  unfold upd cp
  by_cases e : i = j
  · rw [if_pos e, if_neg (by omega), if_pos (by omega), e]
  · rw [if_neg e]
    by_cases c : i < j
    · rw [if_pos c, if_pos (by omega)]
    · rw [if_neg c, if_neg (by omega)]
theorem cpb_s {x : qA} {o j : Nat} (h : j < o) : upd (cpb x o j) j (vp_nar .boolean (cpb x o j (o + j))) = cpb x o (j + 1) := funext fun i => by
  unfold upd cpb
  by_cases e : i = j
  · rw [if_pos e, if_neg (by omega), if_pos (by omega), e]
  · rw [if_neg e]
    by_cases c : i < j
    · rw [if_pos c, if_pos (by omega)]
    · rw [if_neg c, if_neg (by omega)]
theorem cp_0 {x : qA} {o : Nat} : cp x o 0 = x := funext fun i => if_neg (by omega)
theorem cpb_0 {x : qA} {o : Nat} : cpb x o 0 = x := funext fun i => if_neg (by omega)
theorem cp_i {x : qA} {o j i : Nat} (h : i < j) : cp x o j i = x (o + i) := if_pos h
theorem cpb_i {x : qA} {o j i : Nat} (h : i < j) : cpb x o j i = vp_nar .boolean (x (o + i)) := if_pos h
theorem rel_copy {b : qB} {td le ge re lg ne nn nk nr nx su wa ot fm tz : qA} (h : rel 1 b ((td, le, ge, re, lg, ne), (nn, nk, nr, nx), su, (wa, ot, fm, tz))) : rel 0 b ((cpb td 10 10, cp le 10 10, cp ge 10 10, cp re 10 10, cp lg 10 10, cp ne 10 10), (cp nn 60 60, cp nk 60 60, cp nr 60 60, cpb nx 60 60), upd su 0 (su 1), (cp wa 10 10, cp ot 10 10, cp fm 10 10, cp tz 10 10)) := by
  obtain ⟨h1, h2, ⟨q, hq, hq1, hq2, h3⟩, h4⟩ := h
  refine ⟨fun j hj => ?_, fun j hj hb => ?_, ⟨q, hq, hq1, ?_, fun i hi => ?_⟩, h4⟩
  · show cpb td 10 10 (10 * 0 + j) = _
    have := h1 j hj
    dsimp only at this
    rw [show 10 * 0 + j = j by omega, cpb_i hj, show 10 + j = 10 * 1 + j by omega, this, vpn_zb]
  · obtain ⟨r1, r2, r3, r4, r5, w1, w2, m, hm, r6, r7⟩ := h2 j hj hb
    unfold relR
    dsimp only at r1 r2 r3 r4 r5 ⊢
    rw [show 10 * 0 + j = j by omega, cp_i hj, cp_i hj, cp_i hj, cp_i hj, cp_i hj, show 10 + j = 10 * 1 + j by omega]
    refine ⟨r1, r2, r3, r4, r5, w1, w2, m, hm, r6, fun i hi => ?_⟩
    obtain ⟨g1, g2, g3, g4, ⟨e, g5⟩, g6⟩ := r7 i hi
    unfold relN
    dsimp only at g1 g2 g3 g4 ⊢
    have hk : 6 * j + i < 60 := by omega
    rw [show 60 * 0 + (6 * j + i) = 6 * j + i by omega, cp_i hk, cp_i hk, cp_i hk, cpb_i hk, show 60 + (6 * j + i) = 60 * 1 + (6 * j + i) by omega]
    exact ⟨g1, g2, g3, by rw [g4, g5, vpn_zb], ⟨e, g5⟩, g6⟩
  · show upd su 0 (su 1) 0 = nI q
    rw [up_s]; exact hq2
  · have g := h3 i hi
    unfold relS at g ⊢
    dsimp only at g ⊢
    have hk : i < 10 := by omega
    rw [show 10 * 0 + i = i by omega, cp_i hk, cp_i hk, cp_i hk, cp_i hk, show 10 + i = 10 * 1 + i by omega]
    exact g
def pt_Mo_read : zz_PT := fun As ws k _ => ∃ (f : Nat → va_E) (R : List va_E) (t : qM) (n : Nat) (b : qB) (l : qA), t.1.2.1 = nI n ∧ by8 t.2.1 n ∧ (∀ j, j < 10 → l j = -1) ∧ As = [.ref 46] ∧ ws = gW f t R ∧ ∀ (aa wr : Int32) (H : qH), (¬ (pText t.2.1 n 300 0 (bClear b l)).1 = -1 → lowEq t.2.2.1 H → k (some (.int 0)) (gW f ((1, 0, nI n, aa, wr, (pText t.2.1 n 300 0 (bClear b l)).1), t.2.1, H, t.2.2.2) R)) ∧ ((pText t.2.1 n 300 0 (bClear b l)).1 = -1 → rel 0 (pText t.2.1 n 300 0 (bClear b l)).2.2 H → k (some (.int (pText t.2.1 n 300 0 (bClear b l)).2.2.2.1)) (gW f ((0, 0, nI n, aa, wr, -1), t.2.1, H, t.2.2.2) R))
def iMo_read (f : Nat → va_E) (R : List va_E) (t : qM) (n : Nat) (B : qB) (c : Nat) : Nat → zz_Q := fun z ls st ws nc ns => ∃ (aa2 : Int32) (td le ge re lg ne nn nk nr nx su wa ot fm tz : qA), rel 1 B ((td, le, ge, re, lg, ne), (nn, nk, nr, nx), su, (wa, ot, fm, tz)) ∧ ∃ (j : Nat), (match c with
    | 0 => j ≤ 10 ∧ z = 100 + (2 * (10 - j) + 1) ∧ ls = [some (.ref 46), some (.int (nI (nN (fun i => !decide (B.1.1 i = -1)) j))), some (.int (nI j))] ∧ ws = gW f (((nI 0), 0, (nI n), aa2, (zb false), (-1)), t.2.1, (((cpb td 10 j), (cp le 10 j), (cp ge 10 j), (cp re 10 j), (cp lg 10 j), (cp ne 10 j)), (nn, nk, nr, nx), su, ((cp wa 10 j), (cp ot 10 j), (cp fm 10 j), (cp tz 10 j))), t.2.2.2) R
    | 1 => j < 10 ∧ z = 100 + 2 * (10 - j) ∧ ls = [some (.ref 46), some (.int (nI (nN (fun i => !decide (B.1.1 i = -1)) (j + 1)))), some (.int (nI j))] ∧ ws = gW f (((nI 0), 0, (nI n), aa2, (zb false), (-1)), t.2.1, (((cpb td 10 (j + 1)), (cp le 10 j), (cp ge 10 j), (cp re 10 j), (cp lg 10 j), (cp ne 10 j)), (nn, nk, nr, nx), su, ((cp wa 10 j), (cp ot 10 j), (cp fm 10 j), (cp tz 10 j))), t.2.2.2) R
    | _ => j ≤ 60 ∧ z = 60 - j ∧ ls = [some (.ref 46), some (.int (nI (nN (fun i => !decide (B.1.1 i = -1)) 10))), some (.int (nI j))] ∧ ws = gW f (((nI 0), 0, (nI n), aa2, (zb false), (-1)), t.2.1, (((cpb td 10 10), (cp le 10 10), (cp ge 10 10), (cp re 10 10), (cp lg 10 10), (cp ne 10 10)), ((cp nn 60 j), (cp nk 60 j), (cp nr 60 j), (cpb nx 60 j)), su, ((cp wa 10 10), (cp ot 10 10), (cp fm 10 10), (cp tz 10 10))), t.2.2.2) R) ∧ st = [] ∧ nc = 0 ∧ ns = 0
set_option maxHeartbeats 4000000 in
set_option maxRecDepth 100000 in
theorem m_Mo_read (l : Launch) : zz_M zz_CL l y_Mo_read (Cond.code y_Mo_read c_Mo_read 3 (some .int) :: zz_big) (zz_rm 6 130 1 6) (1, false, 0, 0, pt_Mo_read) := by
  refine zz_M_of (HOST := "CrewRules") (L := [(0, 139, (1, false, 0, 0, pt_Mo_readAll)), (0, 94, (4, false, 0, 0, pt_Mo_throwing))]) (sw := sw_Mo_read) (pg := pg_Mo_read) (th := th_Mo_read) (ini := false) (by decide +kernel) zz_static (fun h => nomatch h) (by decide) (by decide) ok_Mo_read (zz_cons (zz_ev_V (m_Mo_readAll l) yw_Mo_readAll yv_Mo_readAll lk_Mo_139 ⟨rfl, rfl, by decide, by decide⟩ (ci := 7) rfl recv_Mo_readAll) (zz_cons (zz_ev_V (m_Mo_throwing l) yw_Mo_throwing yv_Mo_throwing lk_Mo_94 ⟨rfl, rfl, by decide, by decide⟩ (ci := 7) rfl recv_Mo_throwing) zz_nil)) (fun pc E h => (nomatch h)) (zz_VCn 220 ?_)
  rintro As ws k x ⟨f, R, ⟨⟨th, tp, ln, aa, wr, pl⟩, ta, ⟨⟨td, le, ge, re, lg, ne⟩, ⟨nn, nk, nr, nx⟩, su, ⟨wa, ot, fm, tz⟩⟩, ⟨rk, mr, un, bg, bf⟩, kd, im⟩, n, b, l, h1, h8, hl, rfl, rfl, hk⟩
  dsimp only at h1 h8 hk
  subst h1
  have hn := h8.1
  by_cases hT : (pText ta n 300 0 (bClear b l)).1 = -1
  · obtain ⟨B, hB⟩ : ∃ B, (pText ta n 300 0 (bClear b l)).2.2 = B := ⟨_, rfl⟩
    rw [hB] at hk
    refine ⟨Nat.le_of_ble_eq_true rfl, [(36, [true, true, true], iMo_read f R ((th, (nI n), ln, aa, wr, pl), ta, ((td, le, ge, re, lg, ne), (nn, nk, nr, nx), su, (wa, ot, fm, tz)), (rk, mr, un, bg, bf), kd, im) n B 0), (74, [true, true, true], iMo_read f R ((th, (nI n), ln, aa, wr, pl), ta, ((td, le, ge, re, lg, ne), (nn, nk, nr, nx), su, (wa, ot, fm, tz)), (rk, mr, un, bg, bf), kd, im) n B 1), (217, [true, true, true], iMo_read f R ((th, (nI n), ln, aa, wr, pl), ta, ((td, le, ge, re, lg, ne), (nn, nk, nr, nx), su, (wa, ot, fm, tz)), (rk, mr, un, bg, bf), kd, im) n B 2)], zz_al1 ⟨rfl, ?_⟩ (zz_al1 ⟨rfl, ?_⟩ (zz_al1 ⟨rfl, ?_⟩ zz_al0)), ?_⟩
    · skip
      rintro z ls st ws nc ns ⟨aa2, td, le, ge, re, lg, ne, nn, nk, nr, nx, su, wa, ot, fm, tz, hrel, j, ⟨hj, rfl, rfl, rfl⟩, rfl, rfl, rfl⟩
      refine And.intro (fun (c1 : 10 ≤ nI j) => ?_) (fun (c1 : ¬ 10 ≤ nI j) => ?_)
      · have : j = 10 := by
          have := (nI_leI (a := 10) (by decide) (by omega)).mp c1
          omega
        subst this
        exact Exists.intro (60 - 0) (And.intro (by show 60 - 0 < 100 + (2 * (10 - 10) + 1); decide) ⟨aa2, td, le, ge, re, lg, ne, nn, nk, nr, nx, su, wa, ot, fm, tz, hrel, 0, ⟨Nat.zero_le _, rfl, rfl, (by rw [cp_0, cp_0, cp_0, cpb_0])⟩, rfl, rfl, rfl⟩)
      · have hj2 : j < 10 := Nat.lt_of_not_le (fun z : 10 ≤ j => c1 (nI_le z (by omega)))
        have ej : (nI j).toNatClampNeg = j := nI_clamp (by omega)
        have ij : vp_in (nI j) 20 := zn_in (by omega) (by decide)
        have e10 : (10 : Int32) + nI j = nI (10 + j) := by
          show nI 10 + nI j = _
          rw [nI_add]
        have e2 : (nI (10 + j)).toNatClampNeg = 10 + j := nI_clamp (by omega)
        have i10 : vp_in ((10 : Int32) + nI j) 20 := by rw [e10]; exact zn_in (by omega) (by decide)
        have htv : upd (cpb td 10 j) (nI j).toNatClampNeg (vp_nar .boolean (cpb td 10 j ((10 : Int32) + nI j).toNatClampNeg)) (nI j).toNatClampNeg = zb (!decide (B.1.1 j = -1)) := by
          rw [up_s, e10, e2]
          have := hrel.1 j hj2
          dsimp only at this
          rw [show cpb td 10 j (10 + j) = td (10 + j) from if_neg (by omega), show 10 + j = 10 * 1 + j by omega, this, vpn_zb]
        refine And.intro i10 (And.intro ij (And.intro ij ?_))
        cases hB : (!decide (B.1.1 j = -1)) with
        | true =>
          rw [hB] at htv
          refine And.intro (fun (z : upd (cpb td 10 j) (nI j).toNatClampNeg (vp_nar .boolean (cpb td 10 j ((10 : Int32) + nI j).toNatClampNeg)) (nI j).toNatClampNeg = 0) => absurd (by rw [htv] at z; exact z) (by decide)) (fun _ => ?_)
          exact Exists.intro (100 + 2 * (10 - j)) (And.intro (by show 100 + 2 * (10 - j) < 100 + (2 * (10 - j) + 1); omega) ⟨aa2, td, le, ge, re, lg, ne, nn, nk, nr, nx, su, wa, ot, fm, tz, hrel, j, ⟨hj2, rfl, (by rw [nN_t (f := fun i => !decide (B.1.1 i = -1)) (j := j) hB, ← nI_1 (nN (fun i => !decide (B.1.1 i = -1)) j)]; rfl), (by rw [show cpb td 10 (j + 1) = upd (cpb td 10 j) (nI j).toNatClampNeg (vp_nar .boolean ((cpb td 10 j) ((10 : Int32) + nI j).toNatClampNeg)) by rw [e10, ej, e2, cpb_s (by omega)]]; rfl)⟩, rfl, rfl, rfl⟩)
        | false =>
          rw [hB] at htv
          refine And.intro (fun _ => ?_) (fun (z : ¬ upd (cpb td 10 j) (nI j).toNatClampNeg (vp_nar .boolean (cpb td 10 j ((10 : Int32) + nI j).toNatClampNeg)) (nI j).toNatClampNeg = 0) => absurd htv z)
          exact Exists.intro (100 + 2 * (10 - j)) (And.intro (by show 100 + 2 * (10 - j) < 100 + (2 * (10 - j) + 1); omega) ⟨aa2, td, le, ge, re, lg, ne, nn, nk, nr, nx, su, wa, ot, fm, tz, hrel, j, ⟨hj2, rfl, (by rw [nN_f (f := fun i => !decide (B.1.1 i = -1)) (j := j) hB, Int32.add_zero]; rfl), (by rw [show cpb td 10 (j + 1) = upd (cpb td 10 j) (nI j).toNatClampNeg (vp_nar .boolean ((cpb td 10 j) ((10 : Int32) + nI j).toNatClampNeg)) by rw [e10, ej, e2, cpb_s (by omega)]]; rfl)⟩, rfl, rfl, rfl⟩)
    · skip
      rintro z ls st ws nc ns ⟨aa2, td, le, ge, re, lg, ne, nn, nk, nr, nx, su, wa, ot, fm, tz, hrel, j, ⟨hj, rfl, rfl, rfl⟩, rfl, rfl, rfl⟩
      have ej : (nI j).toNatClampNeg = j := nI_clamp (by omega)
      have ij : vp_in (nI j) 20 := zn_in (by omega) (by decide)
      have e10 : (10 : Int32) + nI j = nI (10 + j) := by
        show nI 10 + nI j = _
        rw [nI_add]
      have e2 : (nI (10 + j)).toNatClampNeg = 10 + j := nI_clamp (by omega)
      have i10 : vp_in ((10 : Int32) + nI j) 20 := by rw [e10]; exact zn_in (by omega) (by decide)
      refine And.intro i10 (And.intro ij ?_)
      refine zz_wn (ls := [some (.ref 46), some (.int (nI (nN (fun i => !decide (B.1.1 i = -1)) (j + 1)))), some (.int (nI j))]) (st := []) (ws := gW f (((nI 0), 0, (nI n), aa2, (zb false), (-1)), ta, (((cpb td 10 (j + 1)), (cp le 10 (j + 1)), (cp ge 10 j), (cp re 10 j), (cp lg 10 j), (cp ne 10 j)), (nn, nk, nr, nx), su, ((cp wa 10 j), (cp ot 10 j), (cp fm 10 j), (cp tz 10 j))), (rk, mr, un, bg, bf), kd, im) R) (nc := 0) (ns := 0) rfl rfl (by rw [show cp le 10 (j + 1) = upd (cp le 10 j) (nI j).toNatClampNeg ((cp le 10 j) ((10 : Int32) + nI j).toNatClampNeg) by rw [e10, ej, e2, cp_s (by omega)]]; rfl) rfl rfl ?_
      refine And.intro i10 (And.intro ij ?_)
      refine zz_wn (ls := [some (.ref 46), some (.int (nI (nN (fun i => !decide (B.1.1 i = -1)) (j + 1)))), some (.int (nI j))]) (st := []) (ws := gW f (((nI 0), 0, (nI n), aa2, (zb false), (-1)), ta, (((cpb td 10 (j + 1)), (cp le 10 (j + 1)), (cp ge 10 (j + 1)), (cp re 10 j), (cp lg 10 j), (cp ne 10 j)), (nn, nk, nr, nx), su, ((cp wa 10 j), (cp ot 10 j), (cp fm 10 j), (cp tz 10 j))), (rk, mr, un, bg, bf), kd, im) R) (nc := 0) (ns := 0) rfl rfl (by rw [show cp ge 10 (j + 1) = upd (cp ge 10 j) (nI j).toNatClampNeg ((cp ge 10 j) ((10 : Int32) + nI j).toNatClampNeg) by rw [e10, ej, e2, cp_s (by omega)]]; rfl) rfl rfl ?_
      refine And.intro i10 (And.intro ij ?_)
      refine zz_wn (ls := [some (.ref 46), some (.int (nI (nN (fun i => !decide (B.1.1 i = -1)) (j + 1)))), some (.int (nI j))]) (st := []) (ws := gW f (((nI 0), 0, (nI n), aa2, (zb false), (-1)), ta, (((cpb td 10 (j + 1)), (cp le 10 (j + 1)), (cp ge 10 (j + 1)), (cp re 10 (j + 1)), (cp lg 10 j), (cp ne 10 j)), (nn, nk, nr, nx), su, ((cp wa 10 j), (cp ot 10 j), (cp fm 10 j), (cp tz 10 j))), (rk, mr, un, bg, bf), kd, im) R) (nc := 0) (ns := 0) rfl rfl (by rw [show cp re 10 (j + 1) = upd (cp re 10 j) (nI j).toNatClampNeg ((cp re 10 j) ((10 : Int32) + nI j).toNatClampNeg) by rw [e10, ej, e2, cp_s (by omega)]]; rfl) rfl rfl ?_
      refine And.intro i10 (And.intro ij ?_)
      refine zz_wn (ls := [some (.ref 46), some (.int (nI (nN (fun i => !decide (B.1.1 i = -1)) (j + 1)))), some (.int (nI j))]) (st := []) (ws := gW f (((nI 0), 0, (nI n), aa2, (zb false), (-1)), ta, (((cpb td 10 (j + 1)), (cp le 10 (j + 1)), (cp ge 10 (j + 1)), (cp re 10 (j + 1)), (cp lg 10 (j + 1)), (cp ne 10 j)), (nn, nk, nr, nx), su, ((cp wa 10 j), (cp ot 10 j), (cp fm 10 j), (cp tz 10 j))), (rk, mr, un, bg, bf), kd, im) R) (nc := 0) (ns := 0) rfl rfl (by rw [show cp lg 10 (j + 1) = upd (cp lg 10 j) (nI j).toNatClampNeg ((cp lg 10 j) ((10 : Int32) + nI j).toNatClampNeg) by rw [e10, ej, e2, cp_s (by omega)]]; rfl) rfl rfl ?_
      refine And.intro i10 (And.intro ij ?_)
      refine zz_wn (ls := [some (.ref 46), some (.int (nI (nN (fun i => !decide (B.1.1 i = -1)) (j + 1)))), some (.int (nI j))]) (st := []) (ws := gW f (((nI 0), 0, (nI n), aa2, (zb false), (-1)), ta, (((cpb td 10 (j + 1)), (cp le 10 (j + 1)), (cp ge 10 (j + 1)), (cp re 10 (j + 1)), (cp lg 10 (j + 1)), (cp ne 10 (j + 1))), (nn, nk, nr, nx), su, ((cp wa 10 j), (cp ot 10 j), (cp fm 10 j), (cp tz 10 j))), (rk, mr, un, bg, bf), kd, im) R) (nc := 0) (ns := 0) rfl rfl (by rw [show cp ne 10 (j + 1) = upd (cp ne 10 j) (nI j).toNatClampNeg ((cp ne 10 j) ((10 : Int32) + nI j).toNatClampNeg) by rw [e10, ej, e2, cp_s (by omega)]]; rfl) rfl rfl ?_
      refine And.intro i10 (And.intro ij ?_)
      refine zz_wn (ls := [some (.ref 46), some (.int (nI (nN (fun i => !decide (B.1.1 i = -1)) (j + 1)))), some (.int (nI j))]) (st := []) (ws := gW f (((nI 0), 0, (nI n), aa2, (zb false), (-1)), ta, (((cpb td 10 (j + 1)), (cp le 10 (j + 1)), (cp ge 10 (j + 1)), (cp re 10 (j + 1)), (cp lg 10 (j + 1)), (cp ne 10 (j + 1))), (nn, nk, nr, nx), su, ((cp wa 10 (j + 1)), (cp ot 10 j), (cp fm 10 j), (cp tz 10 j))), (rk, mr, un, bg, bf), kd, im) R) (nc := 0) (ns := 0) rfl rfl (by rw [show cp wa 10 (j + 1) = upd (cp wa 10 j) (nI j).toNatClampNeg ((cp wa 10 j) ((10 : Int32) + nI j).toNatClampNeg) by rw [e10, ej, e2, cp_s (by omega)]]; rfl) rfl rfl ?_
      refine And.intro i10 (And.intro ij ?_)
      refine zz_wn (ls := [some (.ref 46), some (.int (nI (nN (fun i => !decide (B.1.1 i = -1)) (j + 1)))), some (.int (nI j))]) (st := []) (ws := gW f (((nI 0), 0, (nI n), aa2, (zb false), (-1)), ta, (((cpb td 10 (j + 1)), (cp le 10 (j + 1)), (cp ge 10 (j + 1)), (cp re 10 (j + 1)), (cp lg 10 (j + 1)), (cp ne 10 (j + 1))), (nn, nk, nr, nx), su, ((cp wa 10 (j + 1)), (cp ot 10 (j + 1)), (cp fm 10 j), (cp tz 10 j))), (rk, mr, un, bg, bf), kd, im) R) (nc := 0) (ns := 0) rfl rfl (by rw [show cp ot 10 (j + 1) = upd (cp ot 10 j) (nI j).toNatClampNeg ((cp ot 10 j) ((10 : Int32) + nI j).toNatClampNeg) by rw [e10, ej, e2, cp_s (by omega)]]; rfl) rfl rfl ?_
      refine And.intro i10 (And.intro ij ?_)
      refine zz_wn (ls := [some (.ref 46), some (.int (nI (nN (fun i => !decide (B.1.1 i = -1)) (j + 1)))), some (.int (nI j))]) (st := []) (ws := gW f (((nI 0), 0, (nI n), aa2, (zb false), (-1)), ta, (((cpb td 10 (j + 1)), (cp le 10 (j + 1)), (cp ge 10 (j + 1)), (cp re 10 (j + 1)), (cp lg 10 (j + 1)), (cp ne 10 (j + 1))), (nn, nk, nr, nx), su, ((cp wa 10 (j + 1)), (cp ot 10 (j + 1)), (cp fm 10 (j + 1)), (cp tz 10 j))), (rk, mr, un, bg, bf), kd, im) R) (nc := 0) (ns := 0) rfl rfl (by rw [show cp fm 10 (j + 1) = upd (cp fm 10 j) (nI j).toNatClampNeg ((cp fm 10 j) ((10 : Int32) + nI j).toNatClampNeg) by rw [e10, ej, e2, cp_s (by omega)]]; rfl) rfl rfl ?_
      refine And.intro i10 (And.intro ij ?_)
      exact Exists.intro (100 + (2 * (10 - (j + 1)) + 1)) (And.intro (by show 100 + (2 * (10 - (j + 1)) + 1) < 100 + 2 * (10 - j); omega) ⟨aa2, td, le, ge, re, lg, ne, nn, nk, nr, nx, su, wa, ot, fm, tz, hrel, j + 1, ⟨hj, rfl, (by rw [← nI_1 j]; rfl), (by rw [show cp tz 10 (j + 1) = upd (cp tz 10 j) (nI j).toNatClampNeg ((cp tz 10 j) ((10 : Int32) + nI j).toNatClampNeg) by rw [e10, ej, e2, cp_s (by omega)]]; rfl)⟩, rfl, rfl, rfl⟩)
    · skip
      rintro z ls st ws nc ns ⟨aa2, td, le, ge, re, lg, ne, nn, nk, nr, nx, su, wa, ot, fm, tz, hrel, j, ⟨hj, rfl, rfl, rfl⟩, rfl, rfl, rfl⟩
      refine And.intro (fun (c1 : 60 ≤ nI j) => ?_) (fun (c1 : ¬ 60 ≤ nI j) => ?_)
      · have : j = 60 := by
          have := (nI_leI (a := 60) (by decide) (by omega)).mp c1
          omega
        subst this
        refine And.intro (zn_in (i := 1) (by decide) (by decide)) (And.intro (zn_in (i := 0) (by decide) (by decide)) ?_)
        have hk := (hk aa2 (zb false) (((cpb td 10 10), (cp le 10 10), (cp ge 10 10), (cp re 10 10), (cp lg 10 10), (cp ne 10 10)), ((cp nn 60 60), (cp nk 60 60), (cp nr 60 60), (cpb nx 60 60)), (upd su 0 (su 1)), ((cp wa 10 10), (cp ot 10 10), (cp fm 10 10), (cp tz 10 10)))).2 hT (rel_copy hrel)
        rw [hrel.2.2.2] at hk
        exact zz_e0 hk
      · have hj2 : j < 60 := Nat.lt_of_not_le (fun z : 60 ≤ j => c1 (nI_le z (by omega)))
        have ej : (nI j).toNatClampNeg = j := nI_clamp (by omega)
        have ij : vp_in (nI j) 120 := zn_in (by omega) (by decide)
        have e10 : (60 : Int32) + nI j = nI (60 + j) := by
          show nI 60 + nI j = _
          rw [nI_add]
        have e2 : (nI (60 + j)).toNatClampNeg = 60 + j := nI_clamp (by omega)
        have i10 : vp_in ((60 : Int32) + nI j) 120 := by rw [e10]; exact zn_in (by omega) (by decide)
        refine And.intro i10 (And.intro ij ?_)
        refine zz_wn (ls := [some (.ref 46), some (.int (nI (nN (fun i => !decide (B.1.1 i = -1)) 10))), some (.int (nI j))]) (st := []) (ws := gW f (((nI 0), 0, (nI n), aa2, (zb false), (-1)), ta, (((cpb td 10 10), (cp le 10 10), (cp ge 10 10), (cp re 10 10), (cp lg 10 10), (cp ne 10 10)), ((cp nn 60 (j + 1)), (cp nk 60 j), (cp nr 60 j), (cpb nx 60 j)), su, ((cp wa 10 10), (cp ot 10 10), (cp fm 10 10), (cp tz 10 10))), (rk, mr, un, bg, bf), kd, im) R) (nc := 0) (ns := 0) rfl rfl (by rw [show cp nn 60 (j + 1) = upd (cp nn 60 j) (nI j).toNatClampNeg ((cp nn 60 j) ((60 : Int32) + nI j).toNatClampNeg) by rw [e10, ej, e2, cp_s (by omega)]]; rfl) rfl rfl ?_
        refine And.intro i10 (And.intro ij ?_)
        refine zz_wn (ls := [some (.ref 46), some (.int (nI (nN (fun i => !decide (B.1.1 i = -1)) 10))), some (.int (nI j))]) (st := []) (ws := gW f (((nI 0), 0, (nI n), aa2, (zb false), (-1)), ta, (((cpb td 10 10), (cp le 10 10), (cp ge 10 10), (cp re 10 10), (cp lg 10 10), (cp ne 10 10)), ((cp nn 60 (j + 1)), (cp nk 60 (j + 1)), (cp nr 60 j), (cpb nx 60 j)), su, ((cp wa 10 10), (cp ot 10 10), (cp fm 10 10), (cp tz 10 10))), (rk, mr, un, bg, bf), kd, im) R) (nc := 0) (ns := 0) rfl rfl (by rw [show cp nk 60 (j + 1) = upd (cp nk 60 j) (nI j).toNatClampNeg ((cp nk 60 j) ((60 : Int32) + nI j).toNatClampNeg) by rw [e10, ej, e2, cp_s (by omega)]]; rfl) rfl rfl ?_
        refine And.intro i10 (And.intro ij ?_)
        refine zz_wn (ls := [some (.ref 46), some (.int (nI (nN (fun i => !decide (B.1.1 i = -1)) 10))), some (.int (nI j))]) (st := []) (ws := gW f (((nI 0), 0, (nI n), aa2, (zb false), (-1)), ta, (((cpb td 10 10), (cp le 10 10), (cp ge 10 10), (cp re 10 10), (cp lg 10 10), (cp ne 10 10)), ((cp nn 60 (j + 1)), (cp nk 60 (j + 1)), (cp nr 60 (j + 1)), (cpb nx 60 j)), su, ((cp wa 10 10), (cp ot 10 10), (cp fm 10 10), (cp tz 10 10))), (rk, mr, un, bg, bf), kd, im) R) (nc := 0) (ns := 0) rfl rfl (by rw [show cp nr 60 (j + 1) = upd (cp nr 60 j) (nI j).toNatClampNeg ((cp nr 60 j) ((60 : Int32) + nI j).toNatClampNeg) by rw [e10, ej, e2, cp_s (by omega)]]; rfl) rfl rfl ?_
        refine And.intro i10 (And.intro ij ?_)
        exact Exists.intro (60 - (j + 1)) (And.intro (by show 60 - (j + 1) < 60 - j; omega) ⟨aa2, td, le, ge, re, lg, ne, nn, nk, nr, nx, su, wa, ot, fm, tz, hrel, j + 1, ⟨hj2, rfl, (by rw [← nI_1 j]; rfl), (by rw [show cpb nx 60 (j + 1) = upd (cpb nx 60 j) (nI j).toNatClampNeg (vp_nar .boolean ((cpb nx 60 j) ((60 : Int32) + nI j).toNatClampNeg)) by rw [e10, ej, e2, cpb_s (by omega)]]; rfl)⟩, rfl, rfl, rfl⟩)
    · skip
      refine (And.intro (And.intro rfl (And.intro rfl (And.intro rfl (And.intro (by decide) (by decide))))) ?_)
      refine Exists.intro f (Exists.intro R (Exists.intro ((th, 0, (nI n), aa, wr, pl), ta, ((td, le, ge, re, lg, ne), (nn, nk, nr, nx), su, (wa, ot, fm, tz)), (rk, mr, un, bg, bf), kd, im) (Exists.intro n (Exists.intro b (Exists.intro l (And.intro rfl (And.intro h8 (And.intro hl (And.intro rfl (And.intro rfl (?_)))))))))))
      rintro aa2 wr2 pl2 ⟨⟨td, le, ge, re, lg, ne⟩, ⟨nn, nk, nr, nx⟩, su, ⟨wa, ot, fm, tz⟩⟩ hlow2 hor2
      dsimp only at hlow2 hor2
      rcases hor2 with ⟨rfl, hr1, rfl⟩ | ⟨rfl, hr1, rfl, hrel⟩
      · exact absurd hT hr1
      · rw [hB] at hrel
        refine (And.intro (And.intro rfl (And.intro rfl (And.intro rfl (And.intro (by decide) (by decide))))) ?_)
        refine Exists.intro f (Exists.intro R (Exists.intro ((th, 0, (nI n), aa2, (zb false), (-1)), ta, ((td, le, ge, re, lg, ne), (nn, nk, nr, nx), su, (wa, ot, fm, tz)), (rk, mr, un, bg, bf), kd, im) (Exists.intro false (Exists.intro false (Exists.intro false (And.intro rfl (And.intro rfl (?_))))))))
        refine And.intro (fun _ => ?_) (fun (z : ¬ zb false = 0) => absurd rfl z)
        exact Exists.intro (100 + (2 * (10 - 0) + 1)) (And.intro trivial ⟨aa2, td, le, ge, re, lg, ne, nn, nk, nr, nx, su, wa, ot, fm, tz, hrel, 0, ⟨Nat.zero_le _, rfl, rfl, (by rw [cpb_0, cp_0, cp_0, cp_0, cp_0, cp_0, cp_0, cp_0, cp_0, cp_0]; rfl)⟩, rfl, rfl, rfl⟩)
  · refine ⟨Nat.le_of_ble_eq_true rfl, [], zz_al0, ?_⟩
    refine (And.intro (And.intro rfl (And.intro rfl (And.intro rfl (And.intro (by decide) (by decide))))) ?_)
    refine Exists.intro f (Exists.intro R (Exists.intro ((th, 0, (nI n), aa, wr, pl), ta, ((td, le, ge, re, lg, ne), (nn, nk, nr, nx), su, (wa, ot, fm, tz)), (rk, mr, un, bg, bf), kd, im) (Exists.intro n (Exists.intro b (Exists.intro l (And.intro rfl (And.intro h8 (And.intro hl (And.intro rfl (And.intro rfl (?_)))))))))))
    rintro aa2 wr2 pl2 ⟨⟨td, le, ge, re, lg, ne⟩, ⟨nn, nk, nr, nx⟩, su, ⟨wa, ot, fm, tz⟩⟩ hlow2 hor2
    dsimp only at hlow2 hor2
    rcases hor2 with ⟨rfl, hr1, rfl⟩ | ⟨rfl, hr1, rfl, hrel⟩
    · skip
      refine (And.intro (And.intro rfl (And.intro rfl (And.intro rfl (And.intro (by decide) (by decide))))) ?_)
      refine Exists.intro f (Exists.intro R (Exists.intro ((th, 0, (nI n), aa2, (zb true), (pText ta n 300 0 (bClear b l)).1), ta, ((td, le, ge, re, lg, ne), (nn, nk, nr, nx), su, (wa, ot, fm, tz)), (rk, mr, un, bg, bf), kd, im) (Exists.intro true (Exists.intro false (Exists.intro false (And.intro rfl (And.intro rfl (?_))))))))
      refine And.intro (fun (z : zb true = 0) => absurd z (by decide)) (fun _ => ?_)
      exact zz_e0 ((hk aa2 (zb true) ((td, le, ge, re, lg, ne), (nn, nk, nr, nx), su, (wa, ot, fm, tz))).1 hT hlow2)
    · exact absurd hr1 hT
theorem recv_Mo_read : ∀ As ws k x, pt_Mo_read As ws k x → ∃ q As' fs, As = .ref q :: As' ∧ ws[q]? = some (.inr (7, fs)) := by
  rintro As ws k x ⟨f, R, t, n, b, l, h1, h8, hl, rfl, rfl, hk⟩
  exact ⟨_, _, _, rfl, rfl⟩
