/-! ===== Parser: a rule, the text ===== -/
theorem pHead_ok {tb : qA} {n a : Nat} {b : qB} (h8 : by8 tb n) (ha : a ≤ n) : a ≤ (pHead tb n a b).2.1 ∧ (pHead tb n a b).2.1 ≤ n ∧ (pHead tb n a b).2.2.2.2.2.2 = b.2.2.2.2 ∧ ∀ j, (pHead tb n a b).1 = some j → 1 ≤ j ∧ j ≤ 9 ∧ (pHead tb n a b).2.2.1.2.2.2.2 j = nI 0 := by
  unfold pHead
  have hb1 := tn_le (lo := 1) (hi := 9) h8 (show a ≤ n by omega)
  rcases ht1 : tn tb n a 1 9 with ⟨_ | j, a1⟩
  · rw [ht1] at hb1
    dsimp only at hb1 ⊢
    exact ⟨by (try dsimp only); omega, by (try dsimp only); omega, rfl, fun j h => (nomatch h)⟩
  · rw [ht1] at hb1
    dsimp only at hb1 ⊢
    have hv1 := hb1.2.2 j rfl
    by_cases hq : b.1.1 j = -1
    · rw [if_pos hq]
      have hb2 := tk_le (tb := tb) (n := n) (a := a1) (c := 58) (by decide) (show a1 ≤ n by omega)
      rcases ht2 : tk tb n a1 58 with ⟨_ | _, a2⟩
      · rw [ht2] at hb2
        dsimp only at hb2 ⊢
        exact ⟨by (try dsimp only); omega, by (try dsimp only); omega, rfl, fun j h => (nomatch h)⟩
      · rw [ht2] at hb2
        dsimp only at hb2 ⊢
        have hb3 := tn_le (lo := 0) (hi := 9) h8 (show a2 ≤ n by omega)
        rcases ht3 : tn tb n a2 0 9 with ⟨_ | u, a3⟩
        · rw [ht3] at hb3
          dsimp only at hb3 ⊢
          exact ⟨by (try dsimp only); omega, by (try dsimp only); omega, rfl, fun j h => (nomatch h)⟩
        · rw [ht3] at hb3
          dsimp only at hb3 ⊢
          have hv3 := hb3.2.2 u rfl
          have hb4 := tk_le (tb := tb) (n := n) (a := a3) (c := 45) (by decide) (show a3 ≤ n by omega)
          rcases ht4 : tk tb n a3 45 with ⟨_ | _, a4⟩
          · rw [ht4] at hb4
            dsimp only at hb4 ⊢
            exact ⟨by (try dsimp only); omega, by (try dsimp only); omega, rfl, fun j h => (nomatch h)⟩
          · rw [ht4] at hb4
            dsimp only at hb4 ⊢
            have hb5 := tn_le (lo := u) (hi := 9) h8 (show a4 ≤ n by omega)
            rcases ht5 : tn tb n a4 u 9 with ⟨_ | v, a5⟩
            · rw [ht5] at hb5
              dsimp only at hb5 ⊢
              exact ⟨by (try dsimp only); omega, by (try dsimp only); omega, rfl, fun j h => (nomatch h)⟩
            · rw [ht5] at hb5
              dsimp only at hb5 ⊢
              have hv5 := hb5.2.2 v rfl
              exact ⟨by (try dsimp only); omega, by (try dsimp only); omega, rfl, fun j2 h => by cases h; exact ⟨by omega, by omega, pk_us⟩⟩
    · rw [if_neg hq]
      exact ⟨by (try dsimp only); omega, by (try dsimp only); omega, rfl, fun j h => (nomatch h)⟩
theorem pRest_ok {tb : qA} {n a j : Nat} {b : qB} (h8 : by8 tb n) (ha : a ≤ n) : a ≤ (pRest tb n a b j).2.1 ∧ (pRest tb n a b j).2.1 ≤ n ∧ (pRest tb n a b j).2.2.2.2.2.2 = b.2.2.2.2 ∧ (pRest tb n a b j).2.2.1.2.2.2.2 = b.1.2.2.2.2 := by
  unfold pRest
  have hb1 := tk_le (tb := tb) (n := n) (a := a) (c := 126) (by decide) (show a ≤ n by omega)
  rcases ht1 : tk tb n a 126 with ⟨_ | _, a1⟩
  · rw [ht1] at hb1
    dsimp only at hb1 ⊢
    exact ⟨by (try dsimp only); omega, by (try dsimp only); omega, rfl, rfl⟩
  · rw [ht1] at hb1
    dsimp only at hb1 ⊢
    have hb2 := tn_le (lo := 0) (hi := 24) h8 (show a1 ≤ n by omega)
    exact ⟨by omega, hb2.2.1, rfl, rfl⟩
theorem pLong_ok {tb : qA} {n a j : Nat} {b : qB} (h8 : by8 tb n) (ha : a ≤ n) : a ≤ (pLong tb n a b j).2.1 ∧ (pLong tb n a b j).2.1 ≤ n ∧ (pLong tb n a b j).2.2.2.2.2.2 = b.2.2.2.2 ∧ (pLong tb n a b j).2.2.1.2.2.2.2 = b.1.2.2.2.2 := by
  unfold pLong
  have hb1 := tk_le (tb := tb) (n := n) (a := a) (c := 94) (by decide) (show a ≤ n by omega)
  rcases ht1 : tk tb n a 94 with ⟨_ | _, a1⟩
  · rw [ht1] at hb1
    dsimp only at hb1 ⊢
    exact ⟨by (try dsimp only); omega, by (try dsimp only); omega, rfl, rfl⟩
  · rw [ht1] at hb1
    dsimp only at hb1 ⊢
    have hb2 := tn_le (lo := 1) (hi := 48) h8 (show a1 ≤ n by omega)
    exact ⟨by omega, hb2.2.1, rfl, rfl⟩
theorem pNeed_ok {tb : qA} {n a j i : Nat} {b : qB} (h8 : by8 tb n) (ha : a ≤ n) : a ≤ (pNeed tb n a b j i).2.1 ∧ (pNeed tb n a b j i).2.1 ≤ n ∧ (pNeed tb n a b j i).2.2.2.2.2.2 = b.2.2.2.2 ∧ ((pNeed tb n a b j i).1 = true → (pNeed tb n a b j i).2.2.1.2.2.2.2 = upd b.1.2.2.2.2 j (nI (i + 1))) := by
  unfold pNeed
  have hb1 := tk_le (tb := tb) (n := n) (a := a) (c := 61) (by decide) (show a ≤ n by omega)
  rcases ht1 : tk tb n a 61 with ⟨ex, a1⟩
  rw [ht1] at hb1
  dsimp only at hb1 ⊢
  have hb2 := tn_le (lo := 0) (hi := 9) h8 (show a1 ≤ n by omega)
  rcases ht2 : tn tb n a1 0 9 with ⟨_ | v, a2⟩
  · rw [ht2] at hb2
    dsimp only at hb2 ⊢
    exact ⟨by (try dsimp only); omega, by (try dsimp only); omega, rfl, fun h => (nomatch h)⟩
  · rw [ht2] at hb2
    dsimp only at hb2 ⊢
    have hv2 := hb2.2.2 v rfl
    have hb3 := tsk_le h8 (show a2 ≤ n by omega)
    rcases ht3 : tsk tb n a2 with ⟨_ | s, a3⟩
    · rw [ht3] at hb3
      dsimp only at hb3 ⊢
      exact ⟨by (try dsimp only); omega, by (try dsimp only); omega, rfl, fun h => (nomatch h)⟩
    · rw [ht3] at hb3
      dsimp only at hb3 ⊢
      have hv3 := hb3.2.2 s rfl
      have hb4 := tk_le (tb := tb) (n := n) (a := a3) (c := 62) (by decide) (show a3 ≤ n by omega)
      rcases ht4 : tk tb n a3 62 with ⟨_ | _, a4⟩
      · rw [ht4] at hb4
        dsimp only at hb4 ⊢
        exact ⟨by (try dsimp only); omega, by (try dsimp only); omega, rfl, fun _ => rfl⟩
      · rw [ht4] at hb4
        dsimp only at hb4 ⊢
        have hb5 := tn_le (lo := 0) (hi := 9) h8 (show a4 ≤ n by omega)
        rcases ht5 : tn tb n a4 0 9 with ⟨_ | r, a5⟩
        · rw [ht5] at hb5
          dsimp only at hb5 ⊢
          exact ⟨by (try dsimp only); omega, by (try dsimp only); omega, rfl, fun h => (nomatch h)⟩
        · rw [ht5] at hb5
          dsimp only at hb5 ⊢
          exact ⟨by (try dsimp only); omega, by (try dsimp only); omega, rfl, fun _ => rfl⟩
def pNeeds (tb : qA) (n j : Nat) : Nat → Nat → qB → Bool × Nat × qB
  | 0, a, b => (true, a, b)
  | d + 1, a, b => match tk tb n a 44 with
    | (false, a1) => (true, a1, b)
    | (true, a1) => match pNeed tb n a1 b j (6 - (d + 1)) with
      | (false, a2, b2) => (false, a2, b2)
      | (true, a2, b2) => pNeeds tb n j d a2 b2
theorem pNeeds_ok {tb : qA} {n j : Nat} (h8 : by8 tb n) : ∀ (d a : Nat) (b : qB), a ≤ n → a ≤ (pNeeds tb n j d a b).2.1 ∧ (pNeeds tb n j d a b).2.1 ≤ n ∧ (pNeeds tb n j d a b).2.2.2.2.2.2 = b.2.2.2.2 := by
  intro d
  induction d with
  | zero => intro a b ha; exact ⟨Nat.le_refl _, ha, rfl⟩
  | succ d ih =>
    intro a b ha
    unfold pNeeds
    have hb := tk_le (tb := tb) (n := n) (a := a) (c := 44) (by decide) ha
    rcases ht : tk tb n a 44 with ⟨_ | _, a1⟩
    · rw [ht] at hb
      exact ⟨hb.1, hb.2.1, rfl⟩
    · rw [ht] at hb
      dsimp only at hb ⊢
      have hb2 := pNeed_ok (j := j) (i := 6 - (d + 1)) (b := b) h8 (show a1 ≤ n by omega)
      rcases ht2 : pNeed tb n a1 b j (6 - (d + 1)) with ⟨_ | _, a2, b2⟩
      · rw [ht2] at hb2
        dsimp only at hb2 ⊢
        exact ⟨by omega, by omega, hb2.2.2.1⟩
      · rw [ht2] at hb2
        dsimp only at hb2 ⊢
        have h3 := ih a2 b2 (by omega)
        exact ⟨by omega, h3.2.1, h3.2.2.trans hb2.2.2.1⟩
def pRule (tb : qA) (n a : Nat) (b : qB) : Bool × Nat × qB := match pHead tb n a b with
  | (none, a1, b1) => (false, a1, b1)
  | (some j, a1, b1) => match pRest tb n a1 b1 j with
    | (false, a2, b2) => (false, a2, b2)
    | (true, a2, b2) => match pLong tb n a2 b2 j with
      | (false, a3, b3) => (false, a3, b3)
      | (true, a3, b3) => pNeeds tb n j 6 a3 b3
theorem pRule_ok {tb : qA} {n a : Nat} {b : qB} (h8 : by8 tb n) (ha : a ≤ n) : a ≤ (pRule tb n a b).2.1 ∧ (pRule tb n a b).2.1 ≤ n ∧ (pRule tb n a b).2.2.2.2.2.2 = b.2.2.2.2 := by
  unfold pRule
  have h1 := pHead_ok (b := b) h8 ha
  rcases ht1 : pHead tb n a b with ⟨_ | j, a1, b1⟩
  · rw [ht1] at h1
    exact ⟨h1.1, h1.2.1, h1.2.2.1⟩
  · rw [ht1] at h1
    dsimp only at h1 ⊢
    have h2 := pRest_ok (j := j) (b := b1) h8 h1.2.1
    rcases ht2 : pRest tb n a1 b1 j with ⟨_ | _, a2, b2⟩
    · rw [ht2] at h2
      dsimp only at h2 ⊢
      exact ⟨by omega, h2.2.1, h2.2.2.1.trans h1.2.2.1⟩
    · rw [ht2] at h2
      dsimp only at h2 ⊢
      have h3 := pLong_ok (j := j) (b := b2) h8 h2.2.1
      rcases ht3 : pLong tb n a2 b2 j with ⟨_ | _, a3, b3⟩
      · rw [ht3] at h3
        dsimp only at h3 ⊢
        exact ⟨by omega, h3.2.1, h3.2.2.1.trans (h2.2.2.1.trans h1.2.2.1)⟩
      · rw [ht3] at h3
        dsimp only at h3 ⊢
        have h4 := pNeeds_ok (j := j) h8 6 a3 b3 h3.2.1
        exact ⟨by omega, h4.2.1, h4.2.2.trans (h3.2.2.1.trans (h2.2.2.1.trans h1.2.2.1))⟩
def pt_Pa_takeRule : zz_PT := fun As ws k _ => ∃ (s : qC) (R : List va_E) (n a : Nat), s.1.2 = nI n ∧ s.2.1 = nI a ∧ by8 s.1.1 n ∧ a ≤ n ∧ As = [.ref 3, .ref (pS s.2.2.2.2.2.2.2.1)] ∧ ws = gC s ++ R ∧ k (some (.int (zb (pRule s.1.1 n a s.2.2.2.2.2.2.1).1))) (gC (s.1, nI (pRule s.1.1 n a s.2.2.2.2.2.2.1).2.1, s.2.2.1, s.2.2.2.1, s.2.2.2.2.1, s.2.2.2.2.2.1, (pRule s.1.1 n a s.2.2.2.2.2.2.1).2.2, s.2.2.2.2.2.2.2) ++ R)
set_option maxHeartbeats 4000000 in
set_option maxRecDepth 100000 in
theorem m_Pa_takeRule (l : Launch) : zz_M zz_CL l y_Pa_takeRule (Cond.code y_Pa_takeRule c_Pa_takeRule 4 (some .boolean) :: zz_big) (zz_rm 5 113 1 6) (2, false, 0, 0, pt_Pa_takeRule) := by
  refine zz_M_of (HOST := "CrewRules") (L := [(0, 45, (2, false, 0, 0, pt_Pa_takeRuleHead)), (0, 49, (3, false, 0, 0, pt_Pa_takeRest)), (0, 53, (3, false, 0, 0, pt_Pa_takeLongest)), (0, 30, (2, false, 0, 0, pt_Pa_take)), (0, 56, (3, false, 0, 0, pt_Pa_takeNeed))]) (sw := sw_Pa_takeRule) (pg := pg_Pa_takeRule) (th := th_Pa_takeRule) (ini := false) (by decide +kernel) zz_static (fun h => nomatch h) (by decide) (by decide) ok_Pa_takeRule (zz_cons (zz_ev_V (m_Pa_takeRuleHead l) yw_Pa_takeRuleHead yv_Pa_takeRuleHead lk_Pa_45 ⟨rfl, rfl, by decide, by decide⟩ (ci := 2) rfl recv_Pa_takeRuleHead) (zz_cons (zz_ev_V (m_Pa_takeRest l) yw_Pa_takeRest yv_Pa_takeRest lk_Pa_49 ⟨rfl, rfl, by decide, by decide⟩ (ci := 2) rfl recv_Pa_takeRest) (zz_cons (zz_ev_V (m_Pa_takeLongest l) yw_Pa_takeLongest yv_Pa_takeLongest lk_Pa_53 ⟨rfl, rfl, by decide, by decide⟩ (ci := 2) rfl recv_Pa_takeLongest) (zz_cons (zz_ev_V (m_Pa_take l) yw_Pa_take yv_Pa_take lk_Pa_30 ⟨rfl, rfl, by decide, by decide⟩ (ci := 2) rfl recv_Pa_take) (zz_cons (zz_ev_V (m_Pa_takeNeed l) yw_Pa_takeNeed yv_Pa_takeNeed lk_Pa_56 ⟨rfl, rfl, by decide, by decide⟩ (ci := 2) rfl recv_Pa_takeNeed) zz_nil))))) (fun pc E h => (nomatch h)) (zz_VC1 100 33 [true, true, true, true] rfl ?_)
  rintro As ws k x ⟨⟨⟨tb, tl⟩, pa, ⟨rk, mr, fr, bf, un⟩, ⟨kd, sz, mb, co⟩, ⟨wh, hd, gs⟩, bk, sp, fl, wr⟩, R, n, a, h1, h2, h8, ha, rfl, rfl, hk⟩
  dsimp only at h1 h2 h8 hk
  subst h1; subst h2
  have hn := h8.1
  obtain ⟨r, hr⟩ : ∃ r, r = pRule tb n a sp := ⟨_, rfl⟩
  rw [← hr] at hk
  refine ⟨Nat.le_of_ble_eq_true rfl, fun z ls st ws nc ns => ∃ (i j q : Nat) (b : qB), i ≤ 6 ∧ z = 6 - i ∧ q ≤ n ∧ j < 10 ∧ b.1.2.2.2.2 j = nI i ∧ pNeeds tb n j (6 - i) q b = r ∧ ls = [some (.ref 3), some (.ref (pS fl)), some (.int (nI j)), some (.int (nI i))] ∧ st = [] ∧ ws = gC ((tb, (nI n)), (nI q), (rk, mr, fr, bf, un), (kd, sz, mb, co), (wh, hd, gs), bk, b, fl, wr) ++ R ∧ nc = 0 ∧ ns = 0, ?_, ?_⟩
  · rintro z ls st ws nc ns ⟨i, j, q, b, hi, rfl, hq, hj, hc, he, rfl, rfl, rfl, rfl, rfl⟩
    refine And.intro (fun (c1 : 6 ≤ nI i) => ?_) (fun (c1 : ¬ 6 ≤ nI i) => ?_)
    · have : i = 6 := by
        have := (nI_leI (a := 6) (by decide) (by omega)).mp c1
        omega
      subst this
      rw [← he] at hk
      exact zz_eb (b := true) hk
    · have hi2 : i < 6 := Nat.lt_of_not_le (fun z : 6 ≤ i => c1 (nI_le z (by omega)))
      rw [show 6 - i = (5 - i) + 1 by omega] at he
      unfold pNeeds at he
      refine (And.intro (And.intro rfl (And.intro rfl (And.intro rfl (And.intro (by decide) (by decide))))) ?_)
      refine Exists.intro ((tb, (nI n)), (nI q), (rk, mr, fr, bf, un), (kd, sz, mb, co), (wh, hd, gs), bk, b, fl, wr) (Exists.intro R (Exists.intro n (Exists.intro q (Exists.intro 44 (And.intro rfl (And.intro rfl (And.intro hn (And.intro (by omega) (And.intro rfl (And.intro rfl (?_)))))))))))
      have hb := tk_le (tb := tb) (n := n) (a := q) (c := 44) (by decide) (show q ≤ n by omega)
      rcases ht : tk tb n q 44 with ⟨_ | _, a1⟩
      · rw [ht] at he hb
        rw [← he] at hk
        exact And.intro (fun _ => zz_eb (b := true) hk) (fun (q : ¬ zb false = 0) => absurd rfl q)
      · rw [ht] at he hb
        dsimp only at he hb
        refine And.intro (fun (q : zb true = 0) => absurd q (by decide)) (fun _ => ?_)
        rw [show 6 - (5 - i + 1) = i by omega] at he
        refine (And.intro (And.intro rfl (And.intro rfl (And.intro rfl (And.intro (by decide) (by decide))))) ?_)
        refine Exists.intro ((tb, (nI n)), (nI a1), (rk, mr, fr, bf, un), (kd, sz, mb, co), (wh, hd, gs), bk, b, fl, wr) (Exists.intro R (Exists.intro n (Exists.intro a1 (Exists.intro j (Exists.intro i (And.intro rfl (And.intro rfl (And.intro h8 (And.intro (by omega) (And.intro hj (And.intro hi2 (And.intro hc (And.intro rfl (And.intro rfl (?_)))))))))))))))
        have hb2 := pNeed_ok (j := j) (i := i) (b := b) h8 (show a1 ≤ n by omega)
        rcases ht2 : pNeed tb n a1 b j i with ⟨_ | _, a2, b2⟩
        · rw [ht2] at he hb2
          rw [← he] at hk
          exact And.intro (fun (q : ¬ zb false = 0) => absurd rfl q) (fun _ => zz_eb (b := false) hk)
        · rw [ht2] at he hb2
          dsimp only at he hb2
          refine And.intro (fun _ => ?_) (fun (q : zb true = 0) => absurd q (by decide))
          refine Exists.intro (6 - (i + 1)) (And.intro (by show 6 - (i + 1) < 6 - i; omega) ⟨i + 1, j, a2, b2, hi2, rfl, hb2.2.1, hj, ?_, ?_, by rw [← nI_1]; rfl, rfl, rfl, rfl, rfl⟩)
          · rw [hb2.2.2.2 rfl]; exact pk_us
          · rw [← he]; congr 1; omega
  · unfold pRule at hr
    refine (And.intro (And.intro rfl (And.intro rfl (And.intro rfl (And.intro (by decide) (by decide))))) ?_)
    refine Exists.intro ((tb, (nI n)), (nI a), (rk, mr, fr, bf, un), (kd, sz, mb, co), (wh, hd, gs), bk, sp, fl, wr) (Exists.intro R (Exists.intro n (Exists.intro a (And.intro rfl (And.intro rfl (And.intro h8 (And.intro (by omega) (And.intro rfl (And.intro rfl (?_))))))))))
    have g1 := pHead_ok (b := sp) h8 ha
    rcases ht1 : pHead tb n a sp with ⟨_ | j, a1, b1⟩
    · rw [ht1] at hr g1
      rw [hr] at hk
      exact And.intro (fun _ => zz_eb (b := false) hk) (fun (q : ¬ rO none = -1) => absurd rfl q)
    · rw [ht1] at hr g1
      dsimp only at hr g1
      have gj := g1.2.2.2 j rfl
      refine And.intro (fun (q : rO (some j) = -1) => absurd q (rO_some (by omega))) (fun _ => ?_)
      refine (And.intro (And.intro rfl (And.intro rfl (And.intro rfl (And.intro (by decide) (by decide))))) ?_)
      refine Exists.intro ((tb, (nI n)), (nI a1), (rk, mr, fr, bf, un), (kd, sz, mb, co), (wh, hd, gs), bk, b1, fl, wr) (Exists.intro R (Exists.intro n (Exists.intro a1 (Exists.intro j (And.intro rfl (And.intro rfl (And.intro h8 (And.intro (by omega) (And.intro (by omega) (And.intro rfl (And.intro rfl (?_))))))))))))
      have g2 := pRest_ok (j := j) (b := b1) h8 g1.2.1
      rcases ht2 : pRest tb n a1 b1 j with ⟨_ | _, a2, b2⟩
      · rw [ht2] at hr g2
        rw [hr] at hk
        exact And.intro (fun _ => zz_eb (b := false) hk) (fun (q : ¬ zb false = 0) => absurd rfl q)
      · rw [ht2] at hr g2
        dsimp only at hr g2
        refine And.intro (fun (q : zb true = 0) => absurd q (by decide)) (fun _ => ?_)
        refine (And.intro (And.intro rfl (And.intro rfl (And.intro rfl (And.intro (by decide) (by decide))))) ?_)
        refine Exists.intro ((tb, (nI n)), (nI a2), (rk, mr, fr, bf, un), (kd, sz, mb, co), (wh, hd, gs), bk, b2, fl, wr) (Exists.intro R (Exists.intro n (Exists.intro a2 (Exists.intro j (And.intro rfl (And.intro rfl (And.intro h8 (And.intro (by omega) (And.intro (by omega) (And.intro rfl (And.intro rfl (?_))))))))))))
        have g3 := pLong_ok (j := j) (b := b2) h8 g2.2.1
        rcases ht3 : pLong tb n a2 b2 j with ⟨_ | _, a3, b3⟩
        · rw [ht3] at hr g3
          rw [hr] at hk
          exact And.intro (fun (q : ¬ zb false = 0) => absurd rfl q) (fun _ => zz_eb (b := false) hk)
        · rw [ht3] at hr g3
          dsimp only at hr g3
          refine And.intro (fun _ => ?_) (fun (q : zb true = 0) => absurd q (by decide))
          refine Exists.intro 6 (And.intro trivial ⟨0, j, a3, b3, by decide, rfl, g3.2.1, by omega, ?_, hr.symm, rfl, rfl, rfl, rfl, rfl⟩)
          rw [g3.2.2.2, g2.2.2.2]
          exact gj.2.2
theorem recv_Pa_takeRule : ∀ As ws k x, pt_Pa_takeRule As ws k x → ∃ q As' fs, As = .ref q :: As' ∧ ws[q]? = some (.inr (2, fs)) := by
  rintro As ws k x ⟨s, R, n, a, h1, h2, h8, ha, rfl, rfl, hk⟩
  exact ⟨_, _, _, rfl, rfl⟩
theorem pSub_ok {tb : qA} {n a i : Nat} {b : qB} (h8 : by8 tb n) (ha : a ≤ n) (hi : i < 10) (hc : b.2.2.2.2 = nI i) : a ≤ (pSub tb n a b).2.1 ∧ (pSub tb n a b).2.1 ≤ n ∧ ((pSub tb n a b).1 = true → (pSub tb n a b).2.2.2.2.2.2 = nI (i + 1)) := by
  unfold pSub
  have hb1 := tsk_le h8 (show a ≤ n by omega)
  rcases ht1 : tsk tb n a with ⟨_ | u, a1⟩
  · rw [ht1] at hb1
    dsimp only at hb1 ⊢
    exact ⟨by (try dsimp only); omega, by (try dsimp only); omega, fun h => (nomatch h)⟩
  · rw [ht1] at hb1
    dsimp only at hb1 ⊢
    have hv1 := hb1.2.2 u rfl
    have hb2 := tk_le (tb := tb) (n := n) (a := a1) (c := 61) (by decide) (show a1 ≤ n by omega)
    rcases ht2 : tk tb n a1 61 with ⟨_ | _, a2⟩
    · rw [ht2] at hb2
      dsimp only at hb2 ⊢
      exact ⟨by (try dsimp only); omega, by (try dsimp only); omega, fun h => (nomatch h)⟩
    · rw [ht2] at hb2
      dsimp only at hb2 ⊢
      have hb3 := tsk_le h8 (show a2 ≤ n by omega)
      rcases ht3 : tsk tb n a2 with ⟨_ | v, a3⟩
      · rw [ht3] at hb3
        dsimp only at hb3 ⊢
        exact ⟨by (try dsimp only); omega, by (try dsimp only); omega, fun h => (nomatch h)⟩
      · rw [ht3] at hb3
        dsimp only at hb3 ⊢
        have hv3 := hb3.2.2 v rfl
        by_cases hq : v = u
        · rw [if_pos hq]
          exact ⟨by (try dsimp only); omega, by (try dsimp only); omega, fun h => (nomatch h)⟩
        · rw [if_neg hq]
          have hb4 := tk_le (tb := tb) (n := n) (a := a3) (c := 91) (by decide) (show a3 ≤ n by omega)
          rcases ht4 : tk tb n a3 91 with ⟨_ | _, a4⟩
          · rw [ht4] at hb4
            dsimp only at hb4 ⊢
            exact ⟨by (try dsimp only); omega, by (try dsimp only); omega, fun h => (nomatch h)⟩
          · rw [ht4] at hb4
            dsimp only at hb4 ⊢
            have hb5 := tn_le (lo := 0) (hi := 23) h8 (show a4 ≤ n by omega)
            rcases ht5 : tn tb n a4 0 23 with ⟨_ | f, a5⟩
            · rw [ht5] at hb5
              dsimp only at hb5 ⊢
              exact ⟨by (try dsimp only); omega, by (try dsimp only); omega, fun h => (nomatch h)⟩
            · rw [ht5] at hb5
              dsimp only at hb5 ⊢
              have hv5 := hb5.2.2 f rfl
              have hb6 := tk_le (tb := tb) (n := n) (a := a5) (c := 45) (by decide) (show a5 ≤ n by omega)
              rcases ht6 : tk tb n a5 45 with ⟨_ | _, a6⟩
              · rw [ht6] at hb6
                dsimp only at hb6 ⊢
                exact ⟨by (try dsimp only); omega, by (try dsimp only); omega, fun h => (nomatch h)⟩
              · rw [ht6] at hb6
                dsimp only at hb6 ⊢
                have hb7 := tn_le (lo := 0) (hi := 23) h8 (show a6 ≤ n by omega)
                rcases ht7 : tn tb n a6 0 23 with ⟨_ | g, a7⟩
                · rw [ht7] at hb7
                  dsimp only at hb7 ⊢
                  exact ⟨by (try dsimp only); omega, by (try dsimp only); omega, fun h => (nomatch h)⟩
                · rw [ht7] at hb7
                  dsimp only at hb7 ⊢
                  have hv7 := hb7.2.2 g rfl
                  have hb8 := tk_le (tb := tb) (n := n) (a := a7) (c := 93) (by decide) (show a7 ≤ n by omega)
                  rcases ht8 : tk tb n a7 93 with ⟨_ | _, a8⟩
                  · rw [ht8] at hb8
                    dsimp only at hb8 ⊢
                    exact ⟨by (try dsimp only); omega, by (try dsimp only); omega, fun h => (nomatch h)⟩
                  · rw [ht8] at hb8
                    dsimp only at hb8 ⊢
                    refine ⟨by (try dsimp only); omega, by (try dsimp only); omega, fun _ => ?_⟩
                    unfold bSub
                    dsimp only
                    rw [hc, nI_clamp (by omega)]
/-- the text from a on: -1, or where it is wrong; where the reader is; the book -/
def pText (tb : qA) (n : Nat) : Nat → Nat → qB → Int32 × Nat × qB
  | 0, a, b => (-1, a, b)
  | d + 1, a, b => if bt tb n (sk tb n a) = -1 then (-1, sk tb n a, b) else match tk tb n (sk tb n a) 118 with
    | (true, a1) => (match pRule tb n a1 b with
      | (false, a2, b2) => (nI a2, a2, b2)
      | (true, a2, b2) => match tk tb n a2 59 with
        | (false, a3) => (nI a3, a3, b2)
        | (true, a3) => pText tb n d a3 b2)
    | (false, a1) => if 10 ≤ b.2.2.2.2 then (nI a1, a1, b) else match tk tb n a1 115 with
      | (false, a2) => (nI a2, a2, b)
      | (true, a2) => match pSub tb n a2 b with
        | (false, a3, b3) => (nI a3, a3, b3)
        | (true, a3, b3) => match tk tb n a3 59 with
          | (false, a4) => (nI a4, a4, b3)
          | (true, a4) => pText tb n d a4 b3
def bClear (b : qB) (le : qA) : qB := ((le, b.1.2), 0, b.2.2.1, b.2.2.2.1, 0)
def pt_Pa_parse : zz_PT := fun As ws k _ => ∃ (s : qC) (R : List va_E) (n : Nat), s.1.2 = nI n ∧ by8 s.1.1 n ∧ As = [.ref 3, .ref (pS s.2.2.2.2.2.2.2.1)] ∧ ws = gC s ++ R ∧ ∀ le : qA, (∀ j, j < 10 → le j = -1) → k (some (.int (pText s.1.1 n 300 0 (bClear s.2.2.2.2.2.2.1 le)).1)) (gC (s.1, nI (pText s.1.1 n 300 0 (bClear s.2.2.2.2.2.2.1 le)).2.1, s.2.2.1, s.2.2.2.1, s.2.2.2.2.1, s.2.2.2.2.2.1, (pText s.1.1 n 300 0 (bClear s.2.2.2.2.2.2.1 le)).2.2, s.2.2.2.2.2.2.2) ++ R)
set_option maxHeartbeats 4000000 in
set_option maxRecDepth 100000 in
theorem m_Pa_parse (l : Launch) : zz_M zz_CL l y_Pa_parse (Cond.code y_Pa_parse c_Pa_parse 4 (some .int) :: zz_big) (zz_rm 6 136 1 6) (2, false, 0, 0, pt_Pa_parse) := by
  refine zz_M_of (HOST := "CrewRules") (L := [(0, 15, (1, false, 0, 0, pt_Rb_clear)), (0, 26, (1, false, 0, 0, pt_Pa_peek)), (0, 30, (2, false, 0, 0, pt_Pa_take)), (0, 34, (2, false, 0, 0, pt_Pa_takeRule)), (0, 38, (1, false, 0, 0, pt_Rb_hasRoomForSubstitute)), (0, 42, (2, false, 0, 0, pt_Pa_takeSubstitute))]) (sw := sw_Pa_parse) (pg := pg_Pa_parse) (th := th_Pa_parse) (ini := false) (by decide +kernel) zz_static (fun h => nomatch h) (by decide) (by decide) ok_Pa_parse (zz_cons (zz_ev_V (m_Rb_clear l) yw_Rb_clear yv_Rb_clear lk_Pa_15 ⟨rfl, rfl, by decide, by decide⟩ (ci := 6) rfl recv_Rb_clear) (zz_cons (zz_ev_V (m_Pa_peek l) yw_Pa_peek yv_Pa_peek lk_Pa_26 ⟨rfl, rfl, by decide, by decide⟩ (ci := 2) rfl recv_Pa_peek) (zz_cons (zz_ev_V (m_Pa_take l) yw_Pa_take yv_Pa_take lk_Pa_30 ⟨rfl, rfl, by decide, by decide⟩ (ci := 2) rfl recv_Pa_take) (zz_cons (zz_ev_V (m_Pa_takeRule l) yw_Pa_takeRule yv_Pa_takeRule lk_Pa_34 ⟨rfl, rfl, by decide, by decide⟩ (ci := 2) rfl recv_Pa_takeRule) (zz_cons (zz_ev_V (m_Rb_hasRoomForSubstitute l) yw_Rb_hasRoomForSubstitute yv_Rb_hasRoomForSubstitute lk_Pa_38 ⟨rfl, rfl, by decide, by decide⟩ (ci := 6) rfl recv_Rb_hasRoomForSubstitute) (zz_cons (zz_ev_V (m_Pa_takeSubstitute l) yw_Pa_takeSubstitute yv_Pa_takeSubstitute lk_Pa_42 ⟨rfl, rfl, by decide, by decide⟩ (ci := 2) rfl recv_Pa_takeSubstitute) zz_nil)))))) (fun pc E h => (nomatch h)) (zz_VC1 160 11 [true, true, true, false] rfl ?_)
  rintro As ws k x ⟨⟨⟨tb, tl⟩, pa, ⟨rk, mr, fr, bf, un⟩, ⟨kd, sz, mb, co⟩, ⟨wh, hd, gs⟩, bk, sp, fl, wr⟩, R, n, h1, h8, rfl, rfl, hk⟩
  dsimp only at h1 h8 hk
  subst h1
  have hn := h8.1
  cases fl
  · skip
    refine ⟨Nat.le_of_ble_eq_true rfl, fun z ls st ws nc ns => ∃ (i m q : Nat) (b : qB), i ≤ 300 ∧ z = 300 - i ∧ m ≤ 10 ∧ q ≤ n ∧ b.2.2.2.2 = nI m ∧ (∃ le2 : qA, (∀ j, j < 10 → le2 j = -1) ∧ pText tb n (300 - i) q b = pText tb n 300 0 (bClear sp le2)) ∧ ls = [some (.ref 3), some (.ref (pS false)), some (.int (nI i)), none] ∧ st = [] ∧ ws = gC ((tb, (nI n)), (nI q), (rk, mr, fr, bf, un), (kd, sz, mb, co), (wh, hd, gs), bk, b, false, wr) ++ R ∧ nc = 0 ∧ ns = 0, ?_, ?_⟩
    · rintro z ls st ws nc ns ⟨i, m, q, b, hi, rfl, hm, hq, hc, ⟨le2, hl2, he⟩, rfl, rfl, rfl, rfl, rfl⟩
      have hk := hk le2 hl2
      obtain ⟨r, hr⟩ : ∃ r, pText tb n 300 0 (bClear sp le2) = r := ⟨_, rfl⟩
      rw [hr] at hk he
      refine And.intro (fun (c1 : 300 ≤ nI i) => ?_) (fun (c1 : ¬ 300 ≤ nI i) => ?_)
      · have : i = 300 := by
          have := (nI_leI (a := 300) (by decide) (by omega)).mp c1
          omega
        subst this
        rw [← he] at hk
        exact zz_e0 hk
      · have hi2 : i < 300 := Nat.lt_of_not_le (fun z : 300 ≤ i => c1 (nI_le z (by omega)))
        rw [show 300 - i = (299 - i) + 1 by omega] at he
        unfold pText at he
        refine (And.intro (And.intro rfl (And.intro rfl (And.intro rfl (And.intro (by decide) (by decide))))) ?_)
        refine Exists.intro ((tb, (nI n)), (nI q), (rk, mr, fr, bf, un), (kd, sz, mb, co), (wh, hd, gs), bk, b, false, wr) (Exists.intro R (Exists.intro n (Exists.intro q (And.intro rfl (And.intro rfl (And.intro hn (And.intro hq (And.intro rfl (And.intro rfl (?_))))))))))
        have hs := sk_b (tb := tb) hq
        by_cases c2 : bt tb n (sk tb n q) = -1
        · rw [if_pos c2] at he
          rw [← he] at hk
          exact And.intro (fun _ => zz_e0 hk) (fun z => absurd c2 z)
        · rw [if_neg c2] at he
          refine And.intro (fun z => absurd z c2) (fun _ => ?_)
          generalize sk tb n q = s1 at he hs c2 ⊢
          refine (And.intro (And.intro rfl (And.intro rfl (And.intro rfl (And.intro (by decide) (by decide))))) ?_)
          refine Exists.intro ((tb, (nI n)), (nI s1), (rk, mr, fr, bf, un), (kd, sz, mb, co), (wh, hd, gs), bk, b, false, wr) (Exists.intro R (Exists.intro n (Exists.intro s1 (Exists.intro 118 (And.intro rfl (And.intro rfl (And.intro hn (And.intro (by omega) (And.intro rfl (And.intro rfl (?_)))))))))))
          have hb := tk_le (tb := tb) (n := n) (a := s1) (c := 118) (by decide) (show s1 ≤ n by omega)
          rcases ht : tk tb n s1 118 with ⟨_ | _, a1⟩
          · rw [ht] at he hb
            dsimp only at he hb
            refine And.intro (fun _ => ?_) (fun (q : ¬ zb false = 0) => absurd rfl q)
            refine (And.intro (And.intro rfl (And.intro rfl (And.intro rfl (And.intro (by decide) (by decide))))) ?_)
            obtain ⟨⟨le, ge, re, lo, nc⟩, rc, ⟨nx, nn, nk, nr⟩, ⟨wa, si, fh, lh⟩, sc⟩ := b
            dsimp only at hc he
            refine Exists.intro true (Exists.intro [.ref 1, .ref 3, .ref 4, .ref 10, .ref 15, .ref 18, .ref 32, .int wr] (Exists.intro ((tb, nI n), nI a1, (rk, mr, fr, bf, un), (kd, sz, mb, co), (wh, hd, gs)) (Exists.intro bk (Exists.intro R (Exists.intro ((le, ge, re, lo, nc), rc, (nx, nn, nk, nr), (wa, si, fh, lh), sc) (And.intro rfl (And.intro rfl (?_))))))))
            by_cases c3 : (10 : Int32) ≤ sc
            · rw [if_pos c3] at he
              rw [← he] at hk
              exact And.intro (fun _ => And.intro (fun _ => zz_e0 hk) (fun (q : ¬ (0 : Int32) = 0) => absurd rfl q)) (fun (q : ¬ zb (!decide (10 ≤ sc)) = 0) => absurd (by rw [decide_eq_true c3]; rfl) q)
            · rw [if_neg c3] at he
              have hm2 : m < 10 := Nat.lt_of_not_le (fun z : 10 ≤ m => c3 (by rw [hc]; exact nI_le z (by omega)))
              refine And.intro (fun (q : zb (!decide (10 ≤ sc)) = 0) => absurd (by rw [decide_eq_false c3] at q; exact q) (by decide)) (fun _ => ?_)
              refine (And.intro (And.intro rfl (And.intro rfl (And.intro rfl (And.intro (by decide) (by decide))))) ?_)
              refine Exists.intro ((tb, (nI n)), (nI a1), (rk, mr, fr, bf, un), (kd, sz, mb, co), (wh, hd, gs), bk, ((le, ge, re, lo, nc), rc, (nx, nn, nk, nr), (wa, si, fh, lh), sc), false, wr) (Exists.intro R (Exists.intro n (Exists.intro a1 (Exists.intro 115 (And.intro rfl (And.intro rfl (And.intro hn (And.intro (by omega) (And.intro rfl (And.intro rfl (?_)))))))))))
              have hb1 := tk_le (tb := tb) (n := n) (a := a1) (c := 115) (by decide) (show a1 ≤ n by omega)
              rcases ht1 : tk tb n a1 115 with ⟨_ | _, a2⟩
              · rw [ht1] at he hb1
                rw [← he] at hk
                exact And.intro (fun _ => And.intro (fun _ => zz_e0 hk) (fun (q : ¬ (0 : Int32) = 0) => absurd rfl q)) (fun (q : ¬ zb false = 0) => absurd rfl q)
              · rw [ht1] at he hb1
                dsimp only at he hb1
                refine And.intro (fun (q : zb true = 0) => absurd q (by decide)) (fun _ => ?_)
                refine (And.intro (And.intro rfl (And.intro rfl (And.intro rfl (And.intro (by decide) (by decide))))) ?_)
                refine Exists.intro ((tb, (nI n)), (nI a2), (rk, mr, fr, bf, un), (kd, sz, mb, co), (wh, hd, gs), bk, ((le, ge, re, lo, nc), rc, (nx, nn, nk, nr), (wa, si, fh, lh), sc), false, wr) (Exists.intro R (Exists.intro n (Exists.intro a2 (Exists.intro m (And.intro rfl (And.intro rfl (And.intro h8 (And.intro (by omega) (And.intro hm2 (And.intro hc (And.intro rfl (And.intro rfl (?_)))))))))))))
                have hb2 := pSub_ok (b := ((le, ge, re, lo, nc), rc, (nx, nn, nk, nr), (wa, si, fh, lh), sc)) h8 (show a2 ≤ n by omega) hm2 hc
                rcases ht2 : pSub tb n a2 ((le, ge, re, lo, nc), rc, (nx, nn, nk, nr), (wa, si, fh, lh), sc) with ⟨_ | _, a3, b3⟩
                · rw [ht2] at he hb2
                  rw [← he] at hk
                  exact And.intro (fun _ => And.intro (fun _ => zz_e0 hk) (fun (q : ¬ (0 : Int32) = 0) => absurd rfl q)) (fun (q : ¬ zb false = 0) => absurd rfl q)
                · rw [ht2] at he hb2
                  dsimp only at he hb2
                  refine And.intro (fun (q : zb true = 0) => absurd q (by decide)) (fun _ => ?_)
                  refine And.intro (fun (q : (1 : Int32) = 0) => absurd q (by decide)) (fun _ => ?_)
                  refine (And.intro (And.intro rfl (And.intro rfl (And.intro rfl (And.intro (by decide) (by decide))))) ?_)
                  refine Exists.intro ((tb, (nI n)), (nI a3), (rk, mr, fr, bf, un), (kd, sz, mb, co), (wh, hd, gs), bk, b3, false, wr) (Exists.intro R (Exists.intro n (Exists.intro a3 (Exists.intro 59 (And.intro rfl (And.intro rfl (And.intro hn (And.intro (by omega) (And.intro rfl (And.intro rfl (?_)))))))))))
                  have hz := tk_le (tb := tb) (n := n) (a := a3) (c := 59) (by decide) (show a3 ≤ n by omega)
                  rcases htz : tk tb n a3 59 with ⟨_ | _, az⟩
                  · rw [htz] at he hz
                    rw [← he] at hk
                    exact And.intro (fun (q : ¬ zb false = 0) => absurd rfl q) (fun _ => zz_e0 hk)
                  · rw [htz] at he hz
                    dsimp only at he hz
                    refine And.intro (fun _ => ?_) (fun (q : zb true = 0) => absurd q (by decide))
                    exact Exists.intro (300 - (i + 1)) (And.intro (by show 300 - (i + 1) < 300 - i; omega) ⟨i + 1, m + 1, az, b3, hi2, rfl, hm2, hz.2.1, hb2.2.2 rfl, ⟨le2, hl2, by rw [hr, ← he]; congr 1; omega⟩, by rw [← nI_1]; rfl, rfl, rfl, rfl, rfl⟩)
          · rw [ht] at he hb
            dsimp only at he hb
            refine And.intro (fun (q : zb true = 0) => absurd q (by decide)) (fun _ => ?_)
            refine (And.intro (And.intro rfl (And.intro rfl (And.intro rfl (And.intro (by decide) (by decide))))) ?_)
            refine Exists.intro ((tb, (nI n)), (nI a1), (rk, mr, fr, bf, un), (kd, sz, mb, co), (wh, hd, gs), bk, b, false, wr) (Exists.intro R (Exists.intro n (Exists.intro a1 (And.intro rfl (And.intro rfl (And.intro h8 (And.intro (by omega) (And.intro rfl (And.intro rfl (?_))))))))))
            have hb2 := pRule_ok (b := b) h8 (show a1 ≤ n by omega)
            rcases ht2 : pRule tb n a1 b with ⟨_ | _, a2, b2⟩
            · rw [ht2] at he hb2
              rw [← he] at hk
              exact And.intro (fun _ => zz_e0 hk) (fun (q : ¬ zb false = 0) => absurd rfl q)
            · rw [ht2] at he hb2
              dsimp only at he hb2
              refine And.intro (fun (q : zb true = 0) => absurd q (by decide)) (fun _ => ?_)
              refine (And.intro (And.intro rfl (And.intro rfl (And.intro rfl (And.intro (by decide) (by decide))))) ?_)
              refine Exists.intro ((tb, (nI n)), (nI a2), (rk, mr, fr, bf, un), (kd, sz, mb, co), (wh, hd, gs), bk, b2, false, wr) (Exists.intro R (Exists.intro n (Exists.intro a2 (Exists.intro 59 (And.intro rfl (And.intro rfl (And.intro hn (And.intro (by omega) (And.intro rfl (And.intro rfl (?_)))))))))))
              have hz := tk_le (tb := tb) (n := n) (a := a2) (c := 59) (by decide) (show a2 ≤ n by omega)
              rcases htz : tk tb n a2 59 with ⟨_ | _, az⟩
              · rw [htz] at he hz
                rw [← he] at hk
                exact And.intro (fun (q : ¬ zb false = 0) => absurd rfl q) (fun _ => zz_e0 hk)
              · rw [htz] at he hz
                dsimp only at he hz
                refine And.intro (fun _ => ?_) (fun (q : zb true = 0) => absurd q (by decide))
                exact Exists.intro (300 - (i + 1)) (And.intro (by show 300 - (i + 1) < 300 - i; omega) ⟨i + 1, m, az, b2, hi2, rfl, hm, hz.2.1, hb2.2.2.trans hc, ⟨le2, hl2, by rw [hr, ← he]; congr 1; omega⟩, by rw [← nI_1]; rfl, rfl, rfl, rfl, rfl⟩)
    · refine (And.intro (And.intro rfl (And.intro rfl (And.intro rfl (And.intro (by decide) (by decide))))) ?_)
      refine Exists.intro true (Exists.intro [.ref 1, .ref 3, .ref 4, .ref 10, .ref 15, .ref 18, .ref 32, .int wr] (Exists.intro ((tb, nI n), pa, (rk, mr, fr, bf, un), (kd, sz, mb, co), (wh, hd, gs)) (Exists.intro bk (Exists.intro R (Exists.intro sp (And.intro rfl (And.intro rfl (?_))))))))
      intro le2 hl2
      exact Exists.intro 300 (And.intro trivial ⟨0, 0, 0, bClear sp le2, by decide, rfl, by decide, Nat.zero_le _, rfl, ⟨le2, hl2, rfl⟩, rfl, rfl, rfl, rfl, rfl⟩)
  · skip
    refine ⟨Nat.le_of_ble_eq_true rfl, fun z ls st ws nc ns => ∃ (i m q : Nat) (b : qB), i ≤ 300 ∧ z = 300 - i ∧ m ≤ 10 ∧ q ≤ n ∧ b.2.2.2.2 = nI m ∧ (∃ le2 : qA, (∀ j, j < 10 → le2 j = -1) ∧ pText tb n (300 - i) q b = pText tb n 300 0 (bClear sp le2)) ∧ ls = [some (.ref 3), some (.ref (pS true)), some (.int (nI i)), none] ∧ st = [] ∧ ws = gC ((tb, (nI n)), (nI q), (rk, mr, fr, bf, un), (kd, sz, mb, co), (wh, hd, gs), bk, b, true, wr) ++ R ∧ nc = 0 ∧ ns = 0, ?_, ?_⟩
    · rintro z ls st ws nc ns ⟨i, m, q, b, hi, rfl, hm, hq, hc, ⟨le2, hl2, he⟩, rfl, rfl, rfl, rfl, rfl⟩
      have hk := hk le2 hl2
      obtain ⟨r, hr⟩ : ∃ r, pText tb n 300 0 (bClear sp le2) = r := ⟨_, rfl⟩
      rw [hr] at hk he
      refine And.intro (fun (c1 : 300 ≤ nI i) => ?_) (fun (c1 : ¬ 300 ≤ nI i) => ?_)
      · have : i = 300 := by
          have := (nI_leI (a := 300) (by decide) (by omega)).mp c1
          omega
        subst this
        rw [← he] at hk
        exact zz_e0 hk
      · have hi2 : i < 300 := Nat.lt_of_not_le (fun z : 300 ≤ i => c1 (nI_le z (by omega)))
        rw [show 300 - i = (299 - i) + 1 by omega] at he
        unfold pText at he
        refine (And.intro (And.intro rfl (And.intro rfl (And.intro rfl (And.intro (by decide) (by decide))))) ?_)
        refine Exists.intro ((tb, (nI n)), (nI q), (rk, mr, fr, bf, un), (kd, sz, mb, co), (wh, hd, gs), bk, b, true, wr) (Exists.intro R (Exists.intro n (Exists.intro q (And.intro rfl (And.intro rfl (And.intro hn (And.intro hq (And.intro rfl (And.intro rfl (?_))))))))))
        have hs := sk_b (tb := tb) hq
        by_cases c2 : bt tb n (sk tb n q) = -1
        · rw [if_pos c2] at he
          rw [← he] at hk
          exact And.intro (fun _ => zz_e0 hk) (fun z => absurd c2 z)
        · rw [if_neg c2] at he
          refine And.intro (fun z => absurd z c2) (fun _ => ?_)
          generalize sk tb n q = s1 at he hs c2 ⊢
          refine (And.intro (And.intro rfl (And.intro rfl (And.intro rfl (And.intro (by decide) (by decide))))) ?_)
          refine Exists.intro ((tb, (nI n)), (nI s1), (rk, mr, fr, bf, un), (kd, sz, mb, co), (wh, hd, gs), bk, b, true, wr) (Exists.intro R (Exists.intro n (Exists.intro s1 (Exists.intro 118 (And.intro rfl (And.intro rfl (And.intro hn (And.intro (by omega) (And.intro rfl (And.intro rfl (?_)))))))))))
          have hb := tk_le (tb := tb) (n := n) (a := s1) (c := 118) (by decide) (show s1 ≤ n by omega)
          rcases ht : tk tb n s1 118 with ⟨_ | _, a1⟩
          · rw [ht] at he hb
            dsimp only at he hb
            refine And.intro (fun _ => ?_) (fun (q : ¬ zb false = 0) => absurd rfl q)
            refine (And.intro (And.intro rfl (And.intro rfl (And.intro rfl (And.intro (by decide) (by decide))))) ?_)
            obtain ⟨⟨le, ge, re, lo, nc⟩, rc, ⟨nx, nn, nk, nr⟩, ⟨wa, si, fh, lh⟩, sc⟩ := b
            dsimp only at hc he
            refine Exists.intro false (Exists.intro [.ref 1, .ref 3, .ref 4, .ref 10, .ref 15, .ref 32, .ref 18, .int wr] (Exists.intro ((tb, nI n), nI a1, (rk, mr, fr, bf, un), (kd, sz, mb, co), (wh, hd, gs)) (Exists.intro bk (Exists.intro (gB 32 bk ++ R) (Exists.intro ((le, ge, re, lo, nc), rc, (nx, nn, nk, nr), (wa, si, fh, lh), sc) (And.intro rfl (And.intro rfl (?_))))))))
            by_cases c3 : (10 : Int32) ≤ sc
            · rw [if_pos c3] at he
              rw [← he] at hk
              exact And.intro (fun _ => And.intro (fun _ => zz_e0 hk) (fun (q : ¬ (0 : Int32) = 0) => absurd rfl q)) (fun (q : ¬ zb (!decide (10 ≤ sc)) = 0) => absurd (by rw [decide_eq_true c3]; rfl) q)
            · rw [if_neg c3] at he
              have hm2 : m < 10 := Nat.lt_of_not_le (fun z : 10 ≤ m => c3 (by rw [hc]; exact nI_le z (by omega)))
              refine And.intro (fun (q : zb (!decide (10 ≤ sc)) = 0) => absurd (by rw [decide_eq_false c3] at q; exact q) (by decide)) (fun _ => ?_)
              refine (And.intro (And.intro rfl (And.intro rfl (And.intro rfl (And.intro (by decide) (by decide))))) ?_)
              refine Exists.intro ((tb, (nI n)), (nI a1), (rk, mr, fr, bf, un), (kd, sz, mb, co), (wh, hd, gs), bk, ((le, ge, re, lo, nc), rc, (nx, nn, nk, nr), (wa, si, fh, lh), sc), true, wr) (Exists.intro R (Exists.intro n (Exists.intro a1 (Exists.intro 115 (And.intro rfl (And.intro rfl (And.intro hn (And.intro (by omega) (And.intro rfl (And.intro rfl (?_)))))))))))
              have hb1 := tk_le (tb := tb) (n := n) (a := a1) (c := 115) (by decide) (show a1 ≤ n by omega)
              rcases ht1 : tk tb n a1 115 with ⟨_ | _, a2⟩
              · rw [ht1] at he hb1
                rw [← he] at hk
                exact And.intro (fun _ => And.intro (fun _ => zz_e0 hk) (fun (q : ¬ (0 : Int32) = 0) => absurd rfl q)) (fun (q : ¬ zb false = 0) => absurd rfl q)
              · rw [ht1] at he hb1
                dsimp only at he hb1
                refine And.intro (fun (q : zb true = 0) => absurd q (by decide)) (fun _ => ?_)
                refine (And.intro (And.intro rfl (And.intro rfl (And.intro rfl (And.intro (by decide) (by decide))))) ?_)
                refine Exists.intro ((tb, (nI n)), (nI a2), (rk, mr, fr, bf, un), (kd, sz, mb, co), (wh, hd, gs), bk, ((le, ge, re, lo, nc), rc, (nx, nn, nk, nr), (wa, si, fh, lh), sc), true, wr) (Exists.intro R (Exists.intro n (Exists.intro a2 (Exists.intro m (And.intro rfl (And.intro rfl (And.intro h8 (And.intro (by omega) (And.intro hm2 (And.intro hc (And.intro rfl (And.intro rfl (?_)))))))))))))
                have hb2 := pSub_ok (b := ((le, ge, re, lo, nc), rc, (nx, nn, nk, nr), (wa, si, fh, lh), sc)) h8 (show a2 ≤ n by omega) hm2 hc
                rcases ht2 : pSub tb n a2 ((le, ge, re, lo, nc), rc, (nx, nn, nk, nr), (wa, si, fh, lh), sc) with ⟨_ | _, a3, b3⟩
                · rw [ht2] at he hb2
                  rw [← he] at hk
                  exact And.intro (fun _ => And.intro (fun _ => zz_e0 hk) (fun (q : ¬ (0 : Int32) = 0) => absurd rfl q)) (fun (q : ¬ zb false = 0) => absurd rfl q)
                · rw [ht2] at he hb2
                  dsimp only at he hb2
                  refine And.intro (fun (q : zb true = 0) => absurd q (by decide)) (fun _ => ?_)
                  refine And.intro (fun (q : (1 : Int32) = 0) => absurd q (by decide)) (fun _ => ?_)
                  refine (And.intro (And.intro rfl (And.intro rfl (And.intro rfl (And.intro (by decide) (by decide))))) ?_)
                  refine Exists.intro ((tb, (nI n)), (nI a3), (rk, mr, fr, bf, un), (kd, sz, mb, co), (wh, hd, gs), bk, b3, true, wr) (Exists.intro R (Exists.intro n (Exists.intro a3 (Exists.intro 59 (And.intro rfl (And.intro rfl (And.intro hn (And.intro (by omega) (And.intro rfl (And.intro rfl (?_)))))))))))
                  have hz := tk_le (tb := tb) (n := n) (a := a3) (c := 59) (by decide) (show a3 ≤ n by omega)
                  rcases htz : tk tb n a3 59 with ⟨_ | _, az⟩
                  · rw [htz] at he hz
                    rw [← he] at hk
                    exact And.intro (fun (q : ¬ zb false = 0) => absurd rfl q) (fun _ => zz_e0 hk)
                  · rw [htz] at he hz
                    dsimp only at he hz
                    refine And.intro (fun _ => ?_) (fun (q : zb true = 0) => absurd q (by decide))
                    exact Exists.intro (300 - (i + 1)) (And.intro (by show 300 - (i + 1) < 300 - i; omega) ⟨i + 1, m + 1, az, b3, hi2, rfl, hm2, hz.2.1, hb2.2.2 rfl, ⟨le2, hl2, by rw [hr, ← he]; congr 1; omega⟩, by rw [← nI_1]; rfl, rfl, rfl, rfl, rfl⟩)
          · rw [ht] at he hb
            dsimp only at he hb
            refine And.intro (fun (q : zb true = 0) => absurd q (by decide)) (fun _ => ?_)
            refine (And.intro (And.intro rfl (And.intro rfl (And.intro rfl (And.intro (by decide) (by decide))))) ?_)
            refine Exists.intro ((tb, (nI n)), (nI a1), (rk, mr, fr, bf, un), (kd, sz, mb, co), (wh, hd, gs), bk, b, true, wr) (Exists.intro R (Exists.intro n (Exists.intro a1 (And.intro rfl (And.intro rfl (And.intro h8 (And.intro (by omega) (And.intro rfl (And.intro rfl (?_))))))))))
            have hb2 := pRule_ok (b := b) h8 (show a1 ≤ n by omega)
            rcases ht2 : pRule tb n a1 b with ⟨_ | _, a2, b2⟩
            · rw [ht2] at he hb2
              rw [← he] at hk
              exact And.intro (fun _ => zz_e0 hk) (fun (q : ¬ zb false = 0) => absurd rfl q)
            · rw [ht2] at he hb2
              dsimp only at he hb2
              refine And.intro (fun (q : zb true = 0) => absurd q (by decide)) (fun _ => ?_)
              refine (And.intro (And.intro rfl (And.intro rfl (And.intro rfl (And.intro (by decide) (by decide))))) ?_)
              refine Exists.intro ((tb, (nI n)), (nI a2), (rk, mr, fr, bf, un), (kd, sz, mb, co), (wh, hd, gs), bk, b2, true, wr) (Exists.intro R (Exists.intro n (Exists.intro a2 (Exists.intro 59 (And.intro rfl (And.intro rfl (And.intro hn (And.intro (by omega) (And.intro rfl (And.intro rfl (?_)))))))))))
              have hz := tk_le (tb := tb) (n := n) (a := a2) (c := 59) (by decide) (show a2 ≤ n by omega)
              rcases htz : tk tb n a2 59 with ⟨_ | _, az⟩
              · rw [htz] at he hz
                rw [← he] at hk
                exact And.intro (fun (q : ¬ zb false = 0) => absurd rfl q) (fun _ => zz_e0 hk)
              · rw [htz] at he hz
                dsimp only at he hz
                refine And.intro (fun _ => ?_) (fun (q : zb true = 0) => absurd q (by decide))
                exact Exists.intro (300 - (i + 1)) (And.intro (by show 300 - (i + 1) < 300 - i; omega) ⟨i + 1, m, az, b2, hi2, rfl, hm, hz.2.1, hb2.2.2.trans hc, ⟨le2, hl2, by rw [hr, ← he]; congr 1; omega⟩, by rw [← nI_1]; rfl, rfl, rfl, rfl, rfl⟩)
    · refine (And.intro (And.intro rfl (And.intro rfl (And.intro rfl (And.intro (by decide) (by decide))))) ?_)
      refine Exists.intro false (Exists.intro [.ref 1, .ref 3, .ref 4, .ref 10, .ref 15, .ref 32, .ref 18, .int wr] (Exists.intro ((tb, nI n), pa, (rk, mr, fr, bf, un), (kd, sz, mb, co), (wh, hd, gs)) (Exists.intro bk (Exists.intro (gB 32 bk ++ R) (Exists.intro sp (And.intro rfl (And.intro rfl (?_))))))))
      intro le2 hl2
      exact Exists.intro 300 (And.intro trivial ⟨0, 0, 0, bClear sp le2, by decide, rfl, by decide, Nat.zero_le _, rfl, ⟨le2, hl2, rfl⟩, rfl, rfl, rfl, rfl, rfl⟩)
theorem recv_Pa_parse : ∀ As ws k x, pt_Pa_parse As ws k x → ∃ q As' fs, As = .ref q :: As' ∧ ws[q]? = some (.inr (2, fs)) := by
  rintro As ws k x ⟨s, R, n, h1, h8, rfl, rfl, hk⟩
  exact ⟨_, _, _, rfl, rfl⟩
