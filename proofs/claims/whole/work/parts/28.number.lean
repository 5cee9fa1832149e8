/-! ===== Parser: numbers, rules, substitutes ===== -/
/-- a number lo .. hi: it, or none; and where the reader is then -/
def tn (tb : qA) (n a lo hi : Nat) : Option Nat × Nat :=
  match dv tb n (sk tb n a) with
  | none => (none, sk tb n a)
  | some d => match dv tb n (sk tb n a + 1) with
    | none => if lo ≤ d ∧ d ≤ hi then (some d, sk tb n a + 1) else (none, sk tb n a)
    | some e => if d = 0 then (none, if lo = 0 then sk tb n a + 1 else sk tb n a) else if lo ≤ 10 * d + e ∧ 10 * d + e ≤ hi then (some (10 * d + e), sk tb n a + 2) else (none, sk tb n a + 1)
theorem tn_le {tb : qA} {n a lo hi : Nat} (h8 : by8 tb n) (h : a ≤ n) : a ≤ (tn tb n a lo hi).2 ∧ (tn tb n a lo hi).2 ≤ n ∧ ∀ v, (tn tb n a lo hi).1 = some v → a < (tn tb n a lo hi).2 ∧ lo ≤ v ∧ v ≤ hi := by
  have hb := sk_b (tb := tb) h
  unfold tn
  rcases dv_cases (i := sk tb n a) h8 with ⟨h1, -⟩ | ⟨d, hd, h1, -, h2, -⟩
  · rw [h1]
    exact ⟨hb.1, hb.2, fun v z => by cases z⟩
  · rw [h1]
    rcases dv_cases (i := sk tb n a + 1) h8 with ⟨h3, -⟩ | ⟨e, he, h3, -, h4, -⟩
    · rw [h3]
      dsimp only
      by_cases q : lo ≤ d ∧ d ≤ hi
      · rw [if_pos q]
        exact ⟨by dsimp only; omega, by dsimp only; omega, fun v z => by cases z; exact ⟨by dsimp only; omega, q⟩⟩
      · rw [if_neg q]
        exact ⟨hb.1, hb.2, fun v z => by cases z⟩
    · rw [h3]
      dsimp only
      by_cases q0 : d = 0
      · rw [if_pos q0]
        by_cases ql : lo = 0
        · rw [if_pos ql]; exact ⟨by dsimp only; omega, by dsimp only; omega, fun v z => by cases z⟩
        · rw [if_neg ql]; exact ⟨hb.1, hb.2, fun v z => by cases z⟩
      · rw [if_neg q0]
        by_cases q : lo ≤ 10 * d + e ∧ 10 * d + e ≤ hi
        · rw [if_pos q]
          exact ⟨by dsimp only; omega, by dsimp only; omega, fun v z => by cases z; exact ⟨by dsimp only; omega, q⟩⟩
        · rw [if_neg q]
          exact ⟨by dsimp only; omega, by dsimp only; omega, fun v z => by cases z⟩
def pt_Pa_takeNumber : zz_PT := fun As ws k _ => ∃ (s : qC) (R : List va_E) (n a lo hi : Nat), s.1.2 = nI n ∧ s.2.1 = nI a ∧ by8 s.1.1 n ∧ a ≤ n ∧ lo < 100 ∧ hi < 100 ∧ As = [.ref 3, .int (nI lo), .int (nI hi)] ∧ ws = gC s ++ R ∧ k (some (.int (rO (tn s.1.1 n a lo hi).1))) (gC (s.1, nI (tn s.1.1 n a lo hi).2, s.2.2) ++ R)
theorem rO_m {r : Option Nat} (h : ∀ v, r = some v → v < 1000) : rO r = -1 ↔ r = none := by
  cases r with
  | none => exact ⟨fun _ => rfl, fun _ => rfl⟩
  | some v =>
    refine ⟨fun q => ?_, fun q => by cases q⟩
    have := congrArg Int32.toInt q
    have hv := h v rfl
    rw [show rO (some v) = nI v from rfl, nI_toInt (by omega)] at this
    have e : (-1 : Int32).toInt = -1 := by decide
    omega
theorem dv_lt {tb : qA} {n i : Nat} (h8 : by8 tb n) : ∀ v, dv tb n i = some v → v < 1000 := fun v h => by
  rcases dv_cases (i := i) h8 with ⟨h1, -⟩ | ⟨d, hd, h1, -⟩
  · rw [h1] at h; cases h
  · rw [h1] at h; cases h; omega
set_option maxHeartbeats 4000000 in
set_option maxRecDepth 100000 in
theorem m_Pa_takeNumber (l : Launch) : zz_M zz_CL l y_Pa_takeNumber (Cond.code y_Pa_takeNumber c_Pa_takeNumber 5 (some .int) :: zz_big) (zz_rm 3 63 1 6) (3, false, 0, 0, pt_Pa_takeNumber) := by
  refine zz_M_of (HOST := "CrewRules") (L := [(0, 26, (1, false, 0, 0, pt_Pa_peek)), (0, 88, (2, false, 0, 0, pt_Pa_digitAt))]) (sw := sw_Pa_takeNumber) (pg := pg_Pa_takeNumber) (th := th_Pa_takeNumber) (ini := false) (by decide +kernel) zz_static (fun h => nomatch h) (by decide) (by decide) ok_Pa_takeNumber (zz_cons (zz_ev_V (m_Pa_peek l) yw_Pa_peek yv_Pa_peek lk_Pa_26 ⟨rfl, rfl, by decide, by decide⟩ (ci := 2) rfl recv_Pa_peek) (zz_cons (zz_ev_V (m_Pa_digitAt l) yw_Pa_digitAt yv_Pa_digitAt lk_Pa_88 ⟨rfl, rfl, by decide, by decide⟩ (ci := 2) rfl recv_Pa_digitAt) zz_nil)) (fun pc E h => (nomatch h)) (zz_VC0 120 ?_)
  rintro As ws k x ⟨⟨⟨tb, tl⟩, pa, ⟨rk, mr, fr, bf, un⟩, ⟨kd, sz, mb, co⟩, ⟨wh, hd, gs⟩, bk, sp, fl, wr⟩, R, n, a, lo, hi, h1, h2, h8, ha, hlo, hhi, rfl, rfl, hk⟩
  dsimp only at h1 h2 h8 hk
  subst h1; subst h2
  have hn := h8.1
  have hb := sk_b (tb := tb) ha
  refine ⟨Nat.le_of_ble_eq_true rfl, (And.intro (And.intro rfl (And.intro rfl (And.intro rfl (And.intro (by decide) (by decide))))) ?_)⟩
  refine Exists.intro ((tb, (nI n)), (nI a), (rk, mr, fr, bf, un), (kd, sz, mb, co), (wh, hd, gs), bk, sp, fl, wr) (Exists.intro R (Exists.intro n (Exists.intro a (And.intro rfl (And.intro rfl (And.intro hn (And.intro ha (And.intro rfl (And.intro rfl (?_))))))))))
  refine (And.intro (And.intro rfl (And.intro rfl (And.intro rfl (And.intro (by decide) (by decide))))) ?_)
  refine Exists.intro ((tb, (nI n)), (nI (sk tb n a)), (rk, mr, fr, bf, un), (kd, sz, mb, co), (wh, hd, gs), bk, sp, fl, wr) (Exists.intro R (Exists.intro n (Exists.intro (sk tb n a) (And.intro rfl (And.intro h8 (And.intro (by omega) (And.intro rfl (And.intro rfl (?_)))))))))
  have hk0 := hk
  unfold tn at hk
  rcases dv_cases (i := sk tb n a) h8 with ⟨h1, -⟩ | ⟨d, hd2, h1, -, h2, -⟩
  · rw [h1] at hk ⊢
    exact And.intro (fun (c1 : ¬ rO none = -1) => absurd rfl c1) (fun _ => zz_e0 hk)
  · rw [h1] at hk ⊢
    have hr1 : ¬ rO (some d) = -1 := nI_m1 (by omega)
    refine And.intro (fun _ => (And.intro (And.intro rfl (And.intro rfl (And.intro rfl (And.intro (by decide) (by decide))))) ?_)) (fun (c1 : rO (some d) = -1) => absurd c1 hr1)
    refine Exists.intro ((tb, (nI n)), (nI (sk tb n a)), (rk, mr, fr, bf, un), (kd, sz, mb, co), (wh, hd, gs), bk, sp, fl, wr) (Exists.intro R (Exists.intro n (Exists.intro (sk tb n a + 1) (And.intro rfl (And.intro h8 (And.intro (by omega) (And.intro (by rw [← nI_1]; rfl) (And.intro rfl (?_)))))))))
    rcases dv_cases (i := sk tb n a + 1) h8 with ⟨h3, -⟩ | ⟨e, he, h3, -, h4, -⟩
    · rw [h3] at hk ⊢
      dsimp only at hk
      refine And.intro (fun _ => ?_) (fun (c2 : ¬ rO none = -1) => absurd rfl c2)
      refine And.intro (fun (c3 : nI d < nI lo) => ?_) (fun (c3 : ¬ nI d < nI lo) => ?_)
      · rw [if_neg (fun q => absurd ((nI_ltI (by omega) (by omega)).mp c3) (by omega))] at hk
        exact zz_e0 hk
      · have g1 : lo ≤ d := Nat.le_of_not_lt (fun q => c3 (nI_lt q (by omega)))
        refine And.intro (fun (c4 : nI d ≤ nI hi) => ?_) (fun (c4 : ¬ nI d ≤ nI hi) => ?_)
        · rw [if_pos ⟨g1, (nI_leI (by omega) (by omega)).mp c4⟩] at hk
          dsimp only at hk
          rw [← nI_1] at hk
          exact zz_e0 hk
        · rw [if_neg (fun q => c4 (nI_le q.2 (by omega)))] at hk
          exact zz_e0 hk
    · rw [h3] at hk ⊢
      dsimp only at hk
      refine And.intro (fun (c2 : rO (some e) = -1) => absurd c2 (nI_m1 (by omega))) (fun _ => ?_)
      refine And.intro (fun (c3 : ¬ nI d = 0) => ?_) (fun (c3 : nI d = 0) => ?_)
      · have g0 : ¬ d = 0 := fun q => c3 (by rw [q]; rfl)
        rw [if_neg g0] at hk
        have ev : nI d * 10 + nI e = nI (10 * d + e) := by
          show nI d * nI 10 + nI e = _
          rw [pk_mul, nI_add, Nat.mul_comm]
        refine And.intro (fun (c4 : nI d * 10 + nI e < nI lo) => ?_) (fun (c4 : ¬ nI d * 10 + nI e < nI lo) => ?_)
        · rw [ev] at c4
          rw [if_neg (fun q => absurd ((nI_ltI (by omega) (by omega)).mp c4) (by omega))] at hk
          dsimp only at hk
          rw [← nI_1] at hk
          exact zz_e0 hk
        · rw [ev] at c4
          have g1 : lo ≤ 10 * d + e := Nat.le_of_not_lt (fun q => c4 (nI_lt q (by omega)))
          refine And.intro (fun (c5 : nI d * 10 + nI e ≤ nI hi) => ?_) (fun (c5 : ¬ nI d * 10 + nI e ≤ nI hi) => ?_)
          · rw [ev] at c5
            rw [if_pos ⟨g1, (nI_leI (by omega) (by omega)).mp c5⟩] at hk
            dsimp only at hk
            rw [show sk tb n a + 2 = (sk tb n a + 1) + 1 from rfl, ← nI_1, ← nI_1, show rO (some (10 * d + e)) = nI d * 10 + nI e from ev.symm] at hk
            exact zz_e0 hk
          · rw [ev] at c5
            rw [if_neg (fun q => c5 (nI_le q.2 (by omega)))] at hk
            dsimp only at hk
            rw [← nI_1] at hk
            exact zz_e0 hk
      · have g0 : d = 0 := (nI_eq (b := 0) (by omega) (by decide)).mp c3
        rw [if_pos g0] at hk
        refine And.intro (fun (c4 : nI lo ≤ 0) => ?_) (fun (c4 : ¬ nI lo ≤ 0) => ?_)
        · have g1 : lo = 0 := by have := (nI_leI (b := 0) (by omega) (by decide)).mp c4; omega
          rw [if_pos g1] at hk
          dsimp only at hk
          rw [← nI_1] at hk
          exact zz_e0 hk
        · have g1 : ¬ lo = 0 := fun q => c4 (by rw [q]; exact nI_le (b := 0) (Nat.le_refl _) (by decide))
          rw [if_neg g1] at hk
          dsimp only at hk
          rw [show nI (sk tb n a) = nI (sk tb n a) + 0 by rw [Int32.add_zero]] at hk
          exact zz_e0 hk
theorem recv_Pa_takeNumber : ∀ As ws k x, pt_Pa_takeNumber As ws k x → ∃ q As' fs, As = .ref q :: As' ∧ ws[q]? = some (.inr (2, fs)) := by
  rintro As ws k x ⟨s, R, n, a, lo, hi, h1, h2, h8, ha, hlo, hhi, rfl, rfl, hk⟩
  exact ⟨_, _, _, rfl, rfl⟩
