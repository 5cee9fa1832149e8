/-! ===== Crews ===== -/
/-- is p in crew c -/
def cb (mb : Nat → Int64) (c p : Nat) : Bool := (mb c).toBitVec.getLsbD p
def cbit (p : Nat) : Int64 := (1 : Int64) <<< ((nI p).toInt64 &&& 63)
theorem cbit_tp : ∀ p, p < 64 → (cbit p).toBitVec = BitVec.twoPow 64 p := by decide +kernel
theorem ctp_ne : ∀ p, p < 64 → BitVec.twoPow 64 p ≠ 0#64 := by decide +kernel
theorem lgc0 (x : Int64) : lg_cmp x 0 = 0 ↔ x = 0 := by
  unfold lg_cmp
  by_cases h1 : x > 0
  · rw [if_pos h1]
    refine ⟨fun h => absurd h (by decide), fun h => ?_⟩
    rw [h] at h1
    exact absurd h1 (by decide)
  · rw [if_neg h1]
    by_cases h2 : x = 0
    · rw [if_pos h2]; exact ⟨fun _ => h2, fun _ => rfl⟩
    · rw [if_neg h2]; exact ⟨fun h => absurd h (by decide), fun h => absurd h h2⟩
theorem cb_and (w : Int64) {p : Nat} (hp : p < 64) : lg_cmp (w &&& cbit p) 0 = 0 ↔ w.toBitVec.getLsbD p = false := by
  rw [lgc0]
  have e : (w &&& cbit p = 0) ↔ (w.toBitVec &&& BitVec.twoPow 64 p = 0#64) := by
    rw [← cbit_tp p hp]
    constructor
    · intro h
      have := congrArg Int64.toBitVec h
      simpa using this
    · intro h
      apply Int64.toBitVec_inj.mp
      simpa using h
  rw [e, BitVec.and_twoPow]
  by_cases h : w.toBitVec.getLsbD p = true
  · rw [if_pos h, h]
    exact ⟨fun q => absurd q (ctp_ne p hp), fun q => by cases q⟩
  · rw [if_neg h]
    exact ⟨fun _ => by simpa using h, fun _ => rfl⟩
def pt_Cw_has : zz_PT := fun As ws k _ => ∃ (s : qC) (R : List va_E) (c p : Nat), c < 20 ∧ p < 50 ∧ As = [.ref 10, .int (nI c), .int (nI p)] ∧ ws = gC s ++ R ∧ k (some (.int (zb (cb s.2.2.2.1.2.2.1 c p)))) ws
set_option maxHeartbeats 4000000 in
set_option maxRecDepth 100000 in
theorem m_Cw_has (l : Launch) : zz_M zz_CL l y_Cw_has (Cond.code y_Cw_has c_Cw_has 3 (some .boolean) :: zz_big) (zz_rm 1 20 1 6) (3, false, 0, 0, pt_Cw_has) := by
  refine zz_M_of (HOST := "CrewRules") (L := []) (sw := sw_Cw_has) (pg := pg_Cw_has) (th := th_Cw_has) (ini := false) (by decide +kernel) zz_static (fun h => nomatch h) (by decide) (by decide) ok_Cw_has zz_nil (fun pc E h => (nomatch h)) (zz_VC0 40 ?_)
  rintro As ws k x ⟨⟨⟨tb, tl⟩, pa, ⟨rk, mr, fr, bf, un⟩, ⟨kd, sz, mb, co⟩, ⟨wh, hd, gs⟩, bk, sp, fl, wr⟩, R, c, p, hc, hp, rfl, rfl, hk⟩
  refine ⟨Nat.le_of_ble_eq_true rfl, And.intro (zn_in hc (by decide)) ?_⟩
  have e : (nI c).toNatClampNeg = c := nI_clamp (by omega)
  unfold cb at hk
  dsimp only at hk
  refine And.intro (fun (c1 : lg_cmp (mb (nI c).toNatClampNeg &&& cbit p) 0 = 0) => ?_) (fun (c1 : ¬ lg_cmp (mb (nI c).toNatClampNeg &&& cbit p) 0 = 0) => ?_)
  · rw [e, cb_and _ (by omega)] at c1
    rw [c1] at hk
    exact zz_eb (b := false) hk
  · rw [e, cb_and _ (by omega)] at c1
    rw [show (mb c).toBitVec.getLsbD p = true by simpa using c1] at hk
    exact zz_eb (b := true) hk
theorem recv_Cw_has : ∀ As ws k x, pt_Cw_has As ws k x → ∃ q As' fs, As = .ref q :: As' ∧ ws[q]? = some (.inr (4, fs)) := by
  rintro As ws k x ⟨s, R, c, p, hc, hp, rfl, rfl, hk⟩
  exact ⟨_, _, _, rfl, rfl⟩
def cAdd (c p : Nat) : qW → qW
  | (kd, sz, mb, co) => (kd, upd sz c (sz c + 1), vp_updL mb c (mb c ||| cbit p), upd co p (co p + 1))
def cRem (c p : Nat) : qW → qW
  | (kd, sz, mb, co) => (kd, upd sz c (sz c - 1), vp_updL mb c (mb c &&& (cbit p ^^^ (-1))), upd co p (co p - 1))
def pt_Cw_add : zz_PT := fun As ws k _ => ∃ (s : qC) (R : List va_E) (c p : Nat), c < 20 ∧ p < 50 ∧ As = [.ref 10, .int (nI c), .int (nI p)] ∧ ws = gC s ++ R ∧ k none (gC (s.1, s.2.1, s.2.2.1, cAdd c p s.2.2.2.1, s.2.2.2.2) ++ R)
def pt_Cw_remove : zz_PT := fun As ws k _ => ∃ (s : qC) (R : List va_E) (c p : Nat), c < 20 ∧ p < 50 ∧ As = [.ref 10, .int (nI c), .int (nI p)] ∧ ws = gC s ++ R ∧ k none (gC (s.1, s.2.1, s.2.2.1, cRem c p s.2.2.2.1, s.2.2.2.2) ++ R)
set_option maxHeartbeats 4000000 in
set_option maxRecDepth 100000 in
theorem m_Cw_add (l : Launch) : zz_M zz_CL l y_Cw_add (Cond.code y_Cw_add c_Cw_add 3 none :: zz_big) (zz_rm 1 20 1 6) (3, false, 0, 0, pt_Cw_add) := by
  refine zz_M_of (HOST := "CrewRules") (L := []) (sw := sw_Cw_add) (pg := pg_Cw_add) (th := th_Cw_add) (ini := false) (by decide +kernel) zz_static (fun h => nomatch h) (by decide) (by decide) ok_Cw_add zz_nil (fun pc E h => (nomatch h)) (zz_VC0 60 ?_)
  rintro As ws k x ⟨⟨⟨tb, tl⟩, pa, ⟨rk, mr, fr, bf, un⟩, ⟨kd, sz, mb, co⟩, ⟨wh, hd, gs⟩, bk, sp, fl, wr⟩, R, c, p, hc, hp, rfl, rfl, hk⟩
  have e : (nI c).toNatClampNeg = c := nI_clamp (by omega)
  have e2 : (nI p).toNatClampNeg = p := nI_clamp (by omega)
  have hk2 : k none (gC ((tb, tl), pa, (rk, mr, fr, bf, un), (kd, upd sz (nI c).toNatClampNeg (sz (nI c).toNatClampNeg + 1), vp_updL mb (nI c).toNatClampNeg (mb (nI c).toNatClampNeg ||| cbit p), upd co (nI p).toNatClampNeg (co (nI p).toNatClampNeg + 1)), (wh, hd, gs), bk, sp, fl, wr) ++ R) := by
    simp only [e, e2]
    exact hk
  have i1 := zn_in hc (show 20 < 2 ^ 31 by decide)
  have i2 := zn_in hp (show 50 < 2 ^ 31 by decide)
  exact ⟨Nat.le_of_ble_eq_true rfl, And.intro i1 (And.intro i1 (And.intro i1 (And.intro i1 (And.intro i2 (And.intro i2 (zz_ev0 hk2))))))⟩
theorem recv_Cw_add : ∀ As ws k x, pt_Cw_add As ws k x → ∃ q As' fs, As = .ref q :: As' ∧ ws[q]? = some (.inr (4, fs)) := by
  rintro As ws k x ⟨s, R, c, p, hc, hp, rfl, rfl, hk⟩
  exact ⟨_, _, _, rfl, rfl⟩
set_option maxHeartbeats 4000000 in
set_option maxRecDepth 100000 in
theorem m_Cw_remove (l : Launch) : zz_M zz_CL l y_Cw_remove (Cond.code y_Cw_remove c_Cw_remove 3 none :: zz_big) (zz_rm 1 20 1 6) (3, false, 0, 0, pt_Cw_remove) := by
  refine zz_M_of (HOST := "CrewRules") (L := []) (sw := sw_Cw_remove) (pg := pg_Cw_remove) (th := th_Cw_remove) (ini := false) (by decide +kernel) zz_static (fun h => nomatch h) (by decide) (by decide) ok_Cw_remove zz_nil (fun pc E h => (nomatch h)) (zz_VC0 60 ?_)
  rintro As ws k x ⟨⟨⟨tb, tl⟩, pa, ⟨rk, mr, fr, bf, un⟩, ⟨kd, sz, mb, co⟩, ⟨wh, hd, gs⟩, bk, sp, fl, wr⟩, R, c, p, hc, hp, rfl, rfl, hk⟩
  have e : (nI c).toNatClampNeg = c := nI_clamp (by omega)
  have e2 : (nI p).toNatClampNeg = p := nI_clamp (by omega)
  have hk2 : k none (gC ((tb, tl), pa, (rk, mr, fr, bf, un), (kd, upd sz (nI c).toNatClampNeg (sz (nI c).toNatClampNeg - 1), vp_updL mb (nI c).toNatClampNeg (mb (nI c).toNatClampNeg &&& (cbit p ^^^ (-1))), upd co (nI p).toNatClampNeg (co (nI p).toNatClampNeg - 1)), (wh, hd, gs), bk, sp, fl, wr) ++ R) := by
    simp only [e, e2]
    exact hk
  have i1 := zn_in hc (show 20 < 2 ^ 31 by decide)
  have i2 := zn_in hp (show 50 < 2 ^ 31 by decide)
  exact ⟨Nat.le_of_ble_eq_true rfl, And.intro i1 (And.intro i1 (And.intro i1 (And.intro i1 (And.intro i2 (And.intro i2 (zz_ev0 hk2))))))⟩
theorem recv_Cw_remove : ∀ As ws k x, pt_Cw_remove As ws k x → ∃ q As' fs, As = .ref q :: As' ∧ ws[q]? = some (.inr (4, fs)) := by
  rintro As ws k x ⟨s, R, c, p, hc, hp, rfl, rfl, hk⟩
  exact ⟨_, _, _, rfl, rfl⟩
/-- p is in crew c, and in no other -/
def ca (mb : Nat → Int64) (co : qA) (c p : Nat) : Bool := cb mb c p && decide (co p = 1)
theorem zb_0 {b : Bool} : zb b = 0 ↔ b = false := by cases b <;> decide
theorem zb_n {b : Bool} : ¬ zb b = 0 ↔ b = true := by cases b <;> decide
def pt_Cw_hasAlone : zz_PT := fun As ws k _ => ∃ (s : qC) (R : List va_E) (c p : Nat), c < 20 ∧ p < 50 ∧ As = [.ref 10, .int (nI c), .int (nI p)] ∧ ws = gC s ++ R ∧ k (some (.int (zb (ca s.2.2.2.1.2.2.1 s.2.2.2.1.2.2.2 c p)))) ws
set_option maxHeartbeats 4000000 in
set_option maxRecDepth 100000 in
theorem m_Cw_hasAlone (l : Launch) : zz_M zz_CL l y_Cw_hasAlone (Cond.code y_Cw_hasAlone c_Cw_hasAlone 3 (some .boolean) :: zz_big) (zz_rm 2 42 1 6) (3, false, 0, 0, pt_Cw_hasAlone) := by
  refine zz_M_of (HOST := "CrewRules") (L := [(0, 27, (3, false, 0, 0, pt_Cw_has))]) (sw := sw_Cw_hasAlone) (pg := pg_Cw_hasAlone) (th := th_Cw_hasAlone) (ini := false) (by decide +kernel) zz_static (fun h => nomatch h) (by decide) (by decide) ok_Cw_hasAlone (zz_cons (zz_ev_V (m_Cw_has l) yw_Cw_has yv_Cw_has lk_Cw_27 ⟨rfl, rfl, by decide, by decide⟩ (ci := 4) rfl recv_Cw_has) zz_nil) (fun pc E h => (nomatch h)) (zz_VC0 40 ?_)
  rintro As ws k x ⟨⟨⟨tb, tl⟩, pa, ⟨rk, mr, fr, bf, un⟩, ⟨kd, sz, mb, co⟩, ⟨wh, hd, gs⟩, bk, sp, fl, wr⟩, R, c, p, hc, hp, rfl, rfl, hk⟩
  have e2 : (nI p).toNatClampNeg = p := nI_clamp (by omega)
  unfold ca at hk
  dsimp only at hk
  refine ⟨Nat.le_of_ble_eq_true rfl, (And.intro (And.intro rfl (And.intro rfl (And.intro rfl (And.intro (by decide) (by decide))))) ?_)⟩
  refine Exists.intro ((tb, tl), pa, (rk, mr, fr, bf, un), (kd, sz, mb, co), (wh, hd, gs), bk, sp, fl, wr) (Exists.intro R (Exists.intro c (Exists.intro p (And.intro hc (And.intro hp (And.intro rfl (And.intro rfl ?_)))))))
  refine And.intro (fun c1 => ?_) (fun c1 => ?_)
  · rw [zb_0.mp c1] at hk
    exact zz_eb (b := false) hk
  · rw [zb_n.mp c1] at hk
    refine And.intro (zn_in hp (by decide)) ?_
    refine And.intro (fun (c2 : ¬ co (nI p).toNatClampNeg = 1) => ?_) (fun (c2 : co (nI p).toNatClampNeg = 1) => ?_)
    · rw [e2] at c2
      rw [decide_eq_false c2] at hk
      exact zz_eb (b := false) hk
    · rw [e2] at c2
      rw [decide_eq_true c2] at hk
      exact zz_eb (b := true) hk
theorem recv_Cw_hasAlone : ∀ As ws k x, pt_Cw_hasAlone As ws k x → ∃ q As' fs, As = .ref q :: As' ∧ ws[q]? = some (.inr (4, fs)) := by
  rintro As ws k x ⟨s, R, c, p, hc, hp, rfl, rfl, hk⟩
  exact ⟨_, _, _, rfl, rfl⟩
/-- is there one below j in crew c and in another -/
def cs (mb : Nat → Int64) (co : qA) (c : Nat) : Nat → Bool
  | 0 => false
  | j + 1 => cs mb co c j || (cb mb c j && decide (1 < co j))
theorem cs_mono {mb : Nat → Int64} {co : qA} {c : Nat} : ∀ {j n : Nat}, j ≤ n → cs mb co c j = true → cs mb co c n = true := by
  intro j n h hj
  induction n with
  | zero => rw [Nat.le_zero.mp h] at hj; exact hj
  | succ n ih =>
    rcases Nat.lt_or_ge j (n + 1) with q | q
    · show (cs mb co c n || _) = true
      rw [ih (by omega)]; rfl
    · rw [show n + 1 = j by omega]; exact hj
def pt_Cw_sharesSomeone : zz_PT := fun As ws k _ => ∃ (s : qC) (R : List va_E) (c : Nat), c < 20 ∧ As = [.ref 10, .int (nI c)] ∧ ws = gC s ++ R ∧ k (some (.int (zb (cs s.2.2.2.1.2.2.1 s.2.2.2.1.2.2.2 c 50)))) ws
set_option maxHeartbeats 4000000 in
set_option maxRecDepth 100000 in
theorem m_Cw_sharesSomeone (l : Launch) : zz_M zz_CL l y_Cw_sharesSomeone (Cond.code y_Cw_sharesSomeone c_Cw_sharesSomeone 3 (some .boolean) :: zz_big) (zz_rm 2 42 1 6) (2, false, 0, 0, pt_Cw_sharesSomeone) := by
  refine zz_M_of (HOST := "CrewRules") (L := [(0, 27, (3, false, 0, 0, pt_Cw_has))]) (sw := sw_Cw_sharesSomeone) (pg := pg_Cw_sharesSomeone) (th := th_Cw_sharesSomeone) (ini := false) (by decide +kernel) zz_static (fun h => nomatch h) (by decide) (by decide) ok_Cw_sharesSomeone (zz_cons (zz_ev_V (m_Cw_has l) yw_Cw_has yv_Cw_has lk_Cw_27 ⟨rfl, rfl, by decide, by decide⟩ (ci := 4) rfl recv_Cw_has) zz_nil) (fun pc E h => (nomatch h)) (zz_VC1 60 2 [true, true, true] rfl ?_)
  rintro As ws k x ⟨⟨⟨tb, tl⟩, pa, ⟨rk, mr, fr, bf, un⟩, ⟨kd, sz, mb, co⟩, ⟨wh, hd, gs⟩, bk, sp, fl, wr⟩, R, c, hc, rfl, rfl, hk⟩
  dsimp only at hk
  refine ⟨Nat.le_of_ble_eq_true rfl, fun n ls st ws nc ns => ∃ j, j ≤ 50 ∧ n = 50 - j ∧ cs mb co c j = false ∧ ls = [some (.ref 10), some (.int (nI c)), some (.int (nI j))] ∧ st = [] ∧ ws = gC ((tb, tl), pa, (rk, mr, fr, bf, un), (kd, sz, mb, co), (wh, hd, gs), bk, sp, fl, wr) ++ R ∧ nc = 0 ∧ ns = 0, ?_, ?_⟩
  · rintro n ls st ws nc ns ⟨j, hj, rfl, hcs, rfl, rfl, rfl, rfl, rfl⟩
    refine And.intro (fun (c1 : 50 ≤ nI j) => ?_) (fun (c1 : ¬ 50 ≤ nI j) => (And.intro (And.intro rfl (And.intro rfl (And.intro rfl (And.intro (by decide) (by decide))))) ?_))
    · have : j = 50 := by
        have := (nI_leI (a := 50) (by decide) (by omega)).mp c1
        omega
      subst this
      rw [hcs] at hk
      exact zz_eb (b := false) hk
    · have hj2 : j < 50 := Nat.lt_of_not_le (fun z : 50 ≤ j => c1 (nI_le z (by omega)))
      have e2 : (nI j).toNatClampNeg = j := nI_clamp (by omega)
      have hnext : cs mb co c (j + 1) = (cb mb c j && decide (1 < co j)) := by
        show (cs mb co c j || _) = _
        rw [hcs]; rfl
      have stay : cs mb co c (j + 1) = false → (∃ n', n' < 50 - j ∧ ∃ j', j' ≤ 50 ∧ n' = 50 - j' ∧ cs mb co c j' = false ∧ [some (Value.ref 10), some (Value.int (nI c)), some (Value.int (nI j + 1))] = [some (Value.ref 10), some (Value.int (nI c)), some (Value.int (nI j'))] ∧ ([] : List Value) = [] ∧ gC ((tb, tl), pa, (rk, mr, fr, bf, un), (kd, sz, mb, co), (wh, hd, gs), bk, sp, fl, wr) ++ R = gC ((tb, tl), pa, (rk, mr, fr, bf, un), (kd, sz, mb, co), (wh, hd, gs), bk, sp, fl, wr) ++ R ∧ 0 = 0 ∧ 0 = 0) := fun h => ⟨50 - (j + 1), by omega, j + 1, hj2, rfl, h, by rw [← nI_1], rfl, rfl, rfl, rfl⟩
      refine Exists.intro ((tb, tl), pa, (rk, mr, fr, bf, un), (kd, sz, mb, co), (wh, hd, gs), bk, sp, fl, wr) (Exists.intro R (Exists.intro c (Exists.intro j (And.intro hc (And.intro hj2 (And.intro rfl (And.intro rfl ?_)))))))
      refine And.intro (fun c2 => ?_) (fun c2 => And.intro (zn_in hj2 (by decide)) ?_)
      · exact stay (by rw [hnext, zb_0.mp c2]; rfl)
      · refine And.intro (fun (c3 : co (nI j).toNatClampNeg ≤ 1) => ?_) (fun (c3 : ¬ co (nI j).toNatClampNeg ≤ 1) => ?_)
        · rw [e2] at c3
          exact stay (by rw [hnext, zb_n.mp c2, decide_eq_false (fun z => by rw [zn_lt] at z; rw [zn_le] at c3; omega)]; rfl)
        · rw [e2] at c3
          have h1 : cs mb co c (j + 1) = true := by rw [hnext, zb_n.mp c2, decide_eq_true (by rw [zn_lt]; rw [zn_le] at c3; omega)]; rfl
          rw [cs_mono hj2 h1] at hk
          exact zz_eb (b := true) hk
  · exact Exists.intro 50 (And.intro trivial ⟨0, by decide, rfl, rfl, rfl, rfl, rfl, rfl, rfl⟩)
theorem recv_Cw_sharesSomeone : ∀ As ws k x, pt_Cw_sharesSomeone As ws k x → ∃ q As' fs, As = .ref q :: As' ∧ ws[q]? = some (.inr (4, fs)) := by
  rintro As ws k x ⟨s, R, c, hc, rfl, rfl, hk⟩
  exact ⟨_, _, _, rfl, rfl⟩
