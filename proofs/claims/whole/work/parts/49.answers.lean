/-! ===== the answers are the same ===== -/
def mP (p : qP) : qA × qA × qA × qA × qA := (p.1, p.2.1, p.2.2.2.2, p.2.2.1, p.2.2.2.1)
theorem iR_m {v : Int32} (h : iR (-1) 99999 v = true) : decide (v < 0) = decide (v = -1) := by
  have g := iR_g h
  have e : (-1 : Int32).toInt = -1 := by decide
  have e0 : (0 : Int32).toInt = 0 := by decide
  rw [zn_le, e] at g
  refine decide_eq_decide.mpr ?_
  rw [zn_lt, zn_eq, e, e0]
  omega
theorem or_m {v : Int32} (h : v = -1 ∨ 0 ≤ v) : decide (v < 0) = decide (v = -1) := by
  refine decide_eq_decide.mpr ?_
  have e : (-1 : Int32).toInt = -1 := by decide
  have e0 : (0 : Int32).toInt = 0 := by decide
  rw [zn_lt, zn_eq, e, e0]
  rcases h with h | h
  · rw [h, e]; omega
  · rw [zn_le, e0] at h; omega
theorem ngt {x y : Int32} : (!decide (x ≤ y)) = decide (y < x) := by
  by_cases h : x ≤ y
  · rw [decide_eq_true h, decide_eq_false (zn_ge.mpr h)]; rfl
  · rw [decide_eq_false h, decide_eq_true (zn_gt.mp h)]; rfl
/-- the substitutes of a book and of the lower half do the same -/
theorem kV_rel {b : qB} {H : qH} (hr : rel 0 b H) {un : qA} {p s : Nat} {h : Int32} (hs : s < 10) : (!decide (ph un p h 10 &&& bAcc b (nI s) h = 0)) = kV un H.2.2.2 p s h (H.2.2.1 0).toNatClampNeg := by
  obtain ⟨q, hq, h1, h2, h3⟩ := hr.2.2.1
  unfold bAcc
  rw [h1, h2, nI_clamp (by omega), srv hs (fun k hk => (h3 k hk).2.2.2.2.2)]
  unfold kV
  congr 1
  refine aN_c (fun i hi => ?_)
  obtain ⟨g1, g2, g3, g4, -, -⟩ := h3 i hi
  rw [show 10 * 0 + i = i by omega] at g1 g2 g3 g4
  unfold kX
  try dsimp only
  rw [g1, g2, g3, g4]
theorem q_len {w : qW} {im : qA} {pp : qP} (hM : Mem w im) (hP : Peo pp) {c : Nat} (hc : c < 20) : (cg w.2.2.1 w.2.2.2 pp.2.1 c 50).length = kN im pp.2.1 c := by
  rw [cg_length]
  exact nN_c (fun i hi => ck_k hM hP hc hi)
theorem q_lead {w : qW} {im : qA} {pp : qP} (hM : Mem w im) (hP : Peo pp) {c : Nat} (hc : c < 20) : (cg w.2.2.1 w.2.2.2 pp.2.1 c 50).foldl (gb pp.1 pp.2.1) none = kB pp.1 (kF im pp.2.1 c) 50 := by
  rw [cg_lead]
  exact kB_c (fun i hi => (kF_k hM hP hc hi).symm)
theorem q_have {w : qW} {im : qA} {pp : qP} {b : qB} {H : qH} (hM : Mem w im) (hP : Peo pp) (hr : rel 0 b H) {c s : Nat} {r h : Int32} (hc : c < 20) (hs : s < 10) : (cg w.2.2.1 w.2.2.2 pp.2.1 c 50).countP (gq (fun i => ph pp.2.2.2.2 i h 10) pp.1 pp.2.1 (bAcc b (nI s) h) r) = kE im (mP pp) H (some c) s r h := by
  rw [cg_count]
  refine nN_c (fun i hi => ?_)
  unfold gq kG kY mP
  try dsimp only
  rw [kV_rel hr hs, kF_k hM hP hc hi]
  generalize kV pp.2.2.2.2 H.2.2.2 i s h (H.2.2.1 0).toNatClampNeg = v
  cases ck w.2.2.1 w.2.2.2 pp.2.1 c i <;> cases pl pp.2.1 i <;> cases decide (pp.1 i < r) <;> cases v <;> rfl
theorem q_all {w : qW} {im : qA} {pp : qP} {b : qB} {H : qH} (hM : Mem w im) (hP : Peo pp) (hr : rel 0 b H) {s : Nat} {r h : Int32} (hs : s < 10) : (List.range 50).countP (gq (fun i => ph pp.2.2.2.2 i h 10) pp.1 pp.2.1 (bAcc b (nI s) h) r) = kE im (mP pp) H none s r h := by
  rw [range_count]
  refine nN_c (fun i hi => ?_)
  obtain ⟨⟨m, hm, hm2⟩, -⟩ := hP i hi
  unfold gq kG kY mP
  try dsimp only
  rw [kV_rel hr hs, pl_lr hm hm2]
  generalize kV pp.2.2.2.2 H.2.2.2 i s h (H.2.2.1 0).toNatClampNeg = v
  cases lr pp.2.1 i <;> cases decide (pp.1 i < r) <;> cases v <;> rfl
theorem q_verd {w : qW} {im : qA} {pp : qP} {b : qB} {H : qH} (hM : Mem w im) (hP : Peo pp) (hr : rel 0 b H) {c j : Nat} {h : Int32} (hc : c < 20) (hj : j < 10) : aVerd pp b (cg w.2.2.1 w.2.2.2 pp.2.1 c 50) (cs w.2.2.1 w.2.2.2 c 50) j h = aVM im (mP pp) H c h j := by
  have ht := hr.1 j hj
  rw [show 10 * 0 + j = j by omega] at ht
  unfold aVerd aVM
  by_cases hb : b.1.1 j = -1
  · rw [if_pos hb, if_pos (by rw [ht, hb]; decide)]
  · have ht0 : ¬ H.1.1 j = 0 := by rw [ht, decide_eq_false hb]; decide
    rw [if_neg hb, if_neg ht0]
    obtain ⟨r1, r2, r3, r4, r5, w1, w2, m, hm, r6, r7⟩ := hr.2.1 j hj hb
    rw [show 10 * 0 + j = j by omega] at r1 r2 r3 r4 r5
    have c1 : cs w.2.2.1 w.2.2.2 c 50 = aN (kW im c) 50 := by
      have : ∀ k, k ≤ 50 → cs w.2.2.1 w.2.2.2 c k = aN (kW im c) k := by
        intro k
        induction k with
        | zero => intro _; rfl
        | succ k ih =>
          intro hk
          rw [aN_s, ← ih (by omega)]
          show (cs w.2.2.1 w.2.2.2 c k || (cb w.2.2.1 c k && decide (1 < w.2.2.2 k))) = _
          unfold kW
          rw [← hM.1 c k hc (by omega), hM.2.2 k (by omega)]
          have hk := kO_le im k
          have e1 : (1 : Int32).toInt = 1 := by decide
          rw [decide_eq_decide.mpr (show (1 : Int32) < nI (kO im k) ↔ 1 < kO im k by rw [zn_lt, e1, nI_toInt (by omega)]; omega)]
      exact this 50 (Nat.le_refl _)
    have c2 : (cg w.2.2.1 w.2.2.2 pp.2.1 c 50).any (fun i => pr pp.2.2.1 pp.2.2.2.1 i (b.1.2.2.1 j)) = aN (kR im (mP pp) c (b.1.2.2.1 j)) 50 := by
      rw [cg_any]
      refine aN_c (fun i hi => ?_)
      obtain ⟨-, p1, p2⟩ := hP i hi
      unfold kR pr mP
      try dsimp only
      rw [ck_k hM hP hc hi, iR_m p1, iR_m p2, ngt]
    have c3 : (cg w.2.2.1 w.2.2.2 pp.2.1 c 50).any (go pp.2.2.1 (b.1.2.2.2.1 j) h) = aN (kZ im (mP pp) c h (b.1.2.2.2.1 j)) 50 := by
      rw [cg_any]
      refine aN_c (fun i hi => ?_)
      obtain ⟨-, p1, p2⟩ := hP i hi
      unfold kZ go pn mP
      try dsimp only
      rw [ck_k hM hP hc hi, iR_m p1, ngt, Bool.not_and, Bool.not_not, Bool.not_not, Bool.or_assoc]
    have c4 : ∀ i, i < m → nU pp b (cg w.2.2.1 w.2.2.2 pp.2.1 c 50) h j i = kU im (mP pp) H c h j i := by
      intro i hi
      obtain ⟨g1, g2, g3, g4, -, s, hs, g6⟩ := r7 i hi
      rw [show 60 * 0 + (6 * j + i) = 6 * j + i by omega] at g1 g2 g3 g4
      unfold nU kU nC
      rw [g1, g2, g3, g4, g6, nI_clamp (by omega), q_have hM hP hr hc hs, Bool.or_comm]
    have c5 : vF (fN (nU pp b (cg w.2.2.1 w.2.2.2 pp.2.1 c 50) h j) (b.1.2.2.2.2 j).toNatClampNeg) = vF (fN (kU im (mP pp) H c h j) (H.1.2.2.2.2.2 j).toNatClampNeg) := by
      rw [r5, r6, nI_clamp (by omega), fN_c c4]
    rw [c1, q_len hM hP hc, r1, r2, r3, r4, c2, c3, or_m w1, or_m w2, ← c5]
    rfl
theorem q_met {w : qW} {im : qA} {pp : qP} {b : qB} {H : qH} (hM : Mem w im) (hP : Peo pp) (hr : rel 0 b H) {j : Nat} {h : Int32} (hj : j < 10) : (!decide (b.1.1 j = -1) && nB pp b (List.range 50) h j) = kI (mP pp) H im h j := by
  have ht := hr.1 j hj
  rw [show 10 * 0 + j = j by omega] at ht
  unfold kI
  by_cases hb : b.1.1 j = -1
  · rw [decide_eq_true hb, decide_eq_true (show H.1.1 j = 0 by rw [ht, hb]; decide)]; rfl
  · rw [decide_eq_false hb, decide_eq_false (show ¬ H.1.1 j = 0 by rw [ht, decide_eq_false hb]; decide)]
    obtain ⟨r1, r2, r3, r4, r5, w1, w2, m, hm, r6, r7⟩ := hr.2.1 j hj hb
    rw [show 10 * 0 + j = j by omega] at r1 r2 r3 r4 r5
    have c4 : ∀ i, i < m → decide (nI (nC pp b (List.range 50) h (6 * j + i)) < b.2.2.1.2.1 (6 * j + i)) = kD (mP pp) H im h j i := by
      intro i hi
      obtain ⟨g1, g2, g3, g4, -, s, hs, g6⟩ := r7 i hi
      rw [show 60 * 0 + (6 * j + i) = 6 * j + i by omega] at g1 g2 g3 g4
      unfold kD nC
      rw [g1, g2, g3, g6, nI_clamp (by omega), q_all hM hP hr hs]
    have c6 : nN (fun i => !decide (ph pp.2.2.2.2 i h 10 = 0)) 50 = nN (kK (mP pp).2.2.1 h) 50 := nN_c (fun i _ => skd)
    unfold nB kQ
    rw [r5, r6, nI_clamp (by omega), aN_c c4, range_count, c6, r1, Bool.not_and, Bool.not_not, Bool.not_not]
/-! the two states -/
def SR (s : qC) (t : qM) : Prop := (∃ n, s.1.2 = nI n ∧ t.1.2.1 = nI n ∧ by8 s.1.1 n) ∧ t.2.1 = s.1.1 ∧ t.2.2.2.1 = mP s.2.2.1 ∧ t.2.2.2.2.1 = s.2.2.2.1.1 ∧ wfK s.2.2.2.1.1 ∧ Mem s.2.2.2.1 t.2.2.2.2.2 ∧ rel 0 s.2.2.2.2.2.1 t.2.2.1 ∧ t.1.2.2.2.2.2 = s.2.2.2.2.2.2.2.2 ∧ Peo s.2.2.1
theorem wfB_rel {b : qB} {H : qH} (h : rel 0 b H) : wfB b := by
  obtain ⟨-, h2, ⟨q, hq, h3, -, -⟩, -⟩ := h
  refine ⟨⟨q, hq, h3⟩, fun j hj hb => ?_⟩
  obtain ⟨-, -, -, -, -, -, -, m, hm, r6, -⟩ := h2 j hj hb
  exact ⟨m, hm, r6⟩
theorem wfM_rel {b : qB} {H : qH} (h : rel 0 b H) : wfM H := by
  obtain ⟨h1, h2, ⟨q, hq, -, h3, h4⟩, -⟩ := h
  refine ⟨⟨q, hq, h3, fun i hi => ?_⟩, fun j hj ht => ?_⟩
  · obtain ⟨-, g2, -, -, -, u, hu, g⟩ := h4 i hi
    rw [show 10 * 0 + i = i by omega] at g2
    exact ⟨u, hu, by rw [g2, g]⟩
  · have hb : ¬ b.1.1 j = -1 := fun z => ht (by have := h1 j hj; rw [z, show 10 * 0 + j = j by omega] at this; exact this)
    obtain ⟨-, -, -, -, r5, -, -, m, hm, r6, r7⟩ := h2 j hj hb
    rw [show 10 * 0 + j = j by omega] at r5
    refine ⟨m, hm, by rw [r5, r6], fun i hi => ?_⟩
    obtain ⟨-, g2, -, -, -, s, hs, g6⟩ := r7 i hi
    rw [show 60 * 0 + (6 * j + i) = 6 * j + i by omega] at g2
    exact ⟨s, hs, by rw [g2, g6]⟩
theorem q_oRule {b : qB} {H : qH} {k w : Int32} (h : rel 0 b H) : oRuleM H.1.1 k w = oRule b k w := by
  unfold oRuleM oRule
  cases hk : iR 1 9 k with
  | false => rfl
  | true =>
    obtain ⟨n, hn1, hn9, rfl⟩ := iR_s hk
    rw [nI_clamp (by omega)]
    have ht := h.1 n (by omega)
    rw [show 10 * 0 + n = n by omega] at ht
    rw [decide_eq_decide.mpr (show H.1.1 n = 0 ↔ b.1.1 n = -1 from ?_)]
    rw [ht]
    by_cases hb : b.1.1 n = -1
    · rw [decide_eq_true hb]; exact ⟨fun _ => hb, fun _ => rfl⟩
    · rw [decide_eq_false hb]; exact ⟨fun z => absurd z (by decide), fun z => absurd z hb⟩
theorem q_aRule {b : qB} {H : qH} {k w : Int32} (h : rel 0 b H) (ho : oRule b k w = 0) : aRuleM H.1 k w = aRule b k w := by
  unfold oRule at ho
  cases hk : iR 1 9 k with
  | false => rw [hk] at ho; cases ho
  | true =>
    obtain ⟨n, hn1, hn9, rfl⟩ := iR_s hk
    rw [hk, nI_clamp (by omega)] at ho
    by_cases hb : b.1.1 n = -1
    · rw [decide_eq_true hb] at ho; cases ho
    · obtain ⟨r1, r2, r3, r4, r5, -⟩ := h.2.1 n (by omega) hb
      rw [show 10 * 0 + n = n by omega] at r1 r2 r3 r4 r5
      unfold aRuleM aRule
      rw [nI_clamp (by omega), r1, r2, r3, r4, r5]
