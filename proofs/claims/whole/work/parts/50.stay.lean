/-! ===== the two states stay together ===== -/
theorem SR_th {s : qC} {t : qM} (h : SR s t) (v : Int32) : SR s (uTh t v) := h
theorem SR_g {s : qC} {t : qM} (h : SR s t) (g : qG) : SR (uG s g) t := h
theorem SR_person {s : qC} {t : qM} (h : SR s t) {p r m : Int32} (ho : oPerson p r m = 0) (v : Int32) : SR (uPerson s p r m) (uTh (mPerson t p.toNatClampNeg r m) v) := by
  obtain ⟨⟨n, h1, h2, h3⟩, e2, e3, e4, e5, e6, e7, e8, e9⟩ := h
  refine ⟨⟨n, h1, h2, h3⟩, e2, ?_, e4, e5, e6, e7, e8, fun i hi => ?_⟩
  · show (upd t.2.2.2.1.1 _ r, upd t.2.2.2.1.2.1 _ m, t.2.2.2.1.2.2) = _
    rw [e3]; rfl
  · obtain ⟨p1, p2, p3⟩ := e9 i hi
    refine ⟨?_, p2, p3⟩
    show ∃ k, k ≤ 3 ∧ upd s.2.2.1.2.1 p.toNatClampNeg m i = nI k
    by_cases e : i = p.toNatClampNeg
    · rw [← e, up_s]
      unfold oPerson at ho
      cases c1 : iR 0 49 p with
      | false => rw [c1] at ho; cases ho
      | true =>
        cases c2 : iR 0 9 r with
        | false => rw [c1, c2] at ho; cases ho
        | true =>
          cases c3 : iR 0 3 m with
          | false => rw [c1, c2, c3] at ho; cases ho
          | true => exact iR_n (hi := 3) (by decide) c3
    · rw [up_n e]; exact p1
theorem SR_skill {s : qC} {t : qM} (h : SR s t) {p j x : Int32} (v : Int32) : SR (uSkill s p j x) (uTh (mSkill t p.toNatClampNeg j.toNatClampNeg x) v) := by
  obtain ⟨⟨n, h1, h2, h3⟩, e2, e3, e4, e5, e6, e7, e8, e9⟩ := h
  refine ⟨⟨n, h1, h2, h3⟩, e2, ?_, e4, e5, e6, e7, e8, e9⟩
  show (t.2.2.2.1.1, t.2.2.2.1.2.1, upd t.2.2.2.1.2.2.1 _ x, t.2.2.2.1.2.2.2) = _
  rw [e3]; rfl
theorem SR_duty {s : qC} {t : qM} (h : SR s t) {p b e : Int32} (ho : oDuty p b e = 0) (v : Int32) : SR (uDuty s p b e) (uTh (mDuty t p.toNatClampNeg b e) v) := by
  obtain ⟨⟨n, h1, h2, h3⟩, e2, e3, e4, e5, e6, e7, e8, e9⟩ := h
  have hb : iR (-1) 99999 b = true ∧ iR (-1) 99999 e = true := by
    unfold oDuty at ho
    cases c1 : iR 0 49 p with
    | false => rw [c1] at ho; cases ho
    | true =>
      cases c2 : iR (-1) 99999 b with
      | false => rw [c1, c2] at ho; cases ho
      | true =>
        cases c3 : iR (-1) 99999 e with
        | false => rw [c1, c2, c3] at ho; cases ho
        | true => exact ⟨rfl, rfl⟩
  refine ⟨⟨n, h1, h2, h3⟩, e2, ?_, e4, e5, e6, e7, e8, fun i hi => ?_⟩
  · show (t.2.2.2.1.1, t.2.2.2.1.2.1, t.2.2.2.1.2.2.1, upd t.2.2.2.1.2.2.2.1 _ b, upd t.2.2.2.1.2.2.2.2 _ e) = _
    rw [e3]; rfl
  · obtain ⟨p1, p2, p3⟩ := e9 i hi
    refine ⟨p1, ?_, ?_⟩
    · show iR (-1) 99999 (upd s.2.2.1.2.2.1 p.toNatClampNeg b i) = true
      by_cases q : i = p.toNatClampNeg
      · rw [← q, up_s]; exact hb.1
      · rw [up_n q]; exact p2
    · show iR (-1) 99999 (upd s.2.2.1.2.2.2.1 p.toNatClampNeg e i) = true
      by_cases q : i = p.toNatClampNeg
      · rw [← q, up_s]; exact hb.2
      · rw [up_n q]; exact p3
theorem SR_kind {s : qC} {t : qM} (h : SR s t) {c j : Int32} (ho : oKind c j = 0) (v : Int32) : SR (uKind s c j) (uTh (mKind t c.toNatClampNeg j) v) := by
  obtain ⟨⟨n, h1, h2, h3⟩, e2, e3, e4, e5, e6, e7, e8, e9⟩ := h
  refine ⟨⟨n, h1, h2, h3⟩, e2, e3, ?_, fun k hk => ?_, e6, e7, e8, e9⟩
  · show upd t.2.2.2.2.1 _ j = _
    rw [e4]; rfl
  · show ∃ i, 1 ≤ i ∧ i < 10 ∧ upd s.2.2.2.1.1 c.toNatClampNeg j k = nI i
    by_cases q : k = c.toNatClampNeg
    · rw [← q, up_s]
      unfold oKind at ho
      cases c1 : iR 0 19 c with
      | false => rw [c1] at ho; cases ho
      | true =>
        cases c2 : iR 1 9 j with
        | false => rw [c1, c2] at ho; cases ho
        | true =>
          obtain ⟨i, i1, i2, i3⟩ := iR_s c2
          exact ⟨i, i1, by omega, i3⟩
    · rw [up_n q]; exact e5 k hk
theorem cb_add {mb : Nat → Int64} {c p c' p' : Nat} (hp : p < 50) (hp' : p' < 50) : cb (vp_updL mb c (mb c ||| cbit p)) c' p' = (cb mb c' p' || decide (c' = c ∧ p' = p)) := by
  unfold cb vp_updL
  by_cases e : c' = c
  · rw [if_pos e, Int64.toBitVec_or, BitVec.getLsbD_or, cbit_tp p (by omega), BitVec.getLsbD_twoPow, e]
    congr 1
    by_cases q : p' = p
    · subst q; simp <;> omega
    · have : ¬ p = p' := fun z => q z.symm
      simp [q, this]
  · rw [if_neg e, decide_eq_false (fun z => e z.1), Bool.or_false]
theorem cb_rem {mb : Nat → Int64} {c p c' p' : Nat} (hp : p < 50) (hp' : p' < 50) : cb (vp_updL mb c (mb c &&& (cbit p ^^^ (-1)))) c' p' = (cb mb c' p' && !decide (c' = c ∧ p' = p)) := by
  unfold cb vp_updL
  by_cases e : c' = c
  · rw [if_pos e, Int64.toBitVec_and, BitVec.getLsbD_and, Int64.toBitVec_xor, BitVec.getLsbD_xor, cbit_tp p (by omega), BitVec.getLsbD_twoPow, e]
    congr 1
    rw [show (-1 : Int64).toBitVec = BitVec.allOnes 64 by decide, BitVec.getLsbD_allOnes]
    by_cases q : p' = p
    · subst q; simp <;> omega
    · have : ¬ p = p' := fun z => q z.symm
      simp [q, this] <;> omega
  · rw [if_neg e, decide_eq_false (fun z => e z.1), Bool.not_false, Bool.and_true]
theorem bi_up {im : qA} {c p c' p' : Nat} {v : Int32} (hp : p < 50) (hp' : p' < 50) : bi (upd im (50 * c + p) v) c' p' = if c' = c ∧ p' = p then !decide (v = 0) else bi im c' p' := by
  unfold bi
  by_cases e : c' = c ∧ p' = p
  · rw [if_pos e, e.1, e.2, up_s]
  · rw [if_neg e, up_n (fun z => e (by omega))]
theorem bi_sz {im : qA} {c p c' : Nat} {v : Int32} (hp : p < 50) (h : ¬ c' = c) : nN (bi (upd im (50 * c + p) v) c') 50 = nN (bi im c') 50 :=
  nN_c (fun i hi => by rw [bi_up hp hi, if_neg (fun z => h z.1)])
theorem bi_co {im : qA} {c p p' : Nat} {v : Int32} (hp : p < 50) (hp' : p' < 50) (h : ¬ p' = p) : kO (upd im (50 * c + p) v) p' = kO im p' :=
  nN_c (fun i hi => by rw [bi_up hp hp', if_neg (fun z => h z.2)])
theorem nN_ul {f g : Nat → Bool} {k : Nat} (hf : f k = false) (hg : g k = true) : ∀ {j : Nat}, k < j → (∀ i, i < j → ¬ i = k → g i = f i) → nN g j = nN f j + 1 := by
  intro j
  induction j with
  | zero => intro h; omega
  | succ j ih =>
    intro hk h
    by_cases e : j = k
    · subst e
      rw [nN_t hg, nN_f hf, nN_c (fun i hi => h i (by omega) (by omega))]
    · have := ih (by omega) (fun i hi => h i (by omega))
      cases hj : f j with
      | true => rw [nN_t hj, nN_t (by rw [h j (by omega) e]; exact hj), this]
      | false => rw [nN_f hj, nN_f (by rw [h j (by omega) e]; exact hj), this]
theorem Mem_add {w : qW} {im : qA} {c p : Nat} (h : Mem w im) (hc : c < 20) (hp : p < 50) (hn : bi im c p = false) (hz : ¬ nN (bi im c) 50 = 12) : Mem (cAdd c p w) (upd im (50 * c + p) 1) := by
  obtain ⟨kd, sz, mb, co⟩ := w
  obtain ⟨m1, m2, m3⟩ := h
  try dsimp only at m1 m2 m3
  refine ⟨fun c' p' hc' hp' => ?_, fun c' hc' => ?_, fun p' hp' => ?_⟩
  · show bi _ c' p' = cb (vp_updL mb c (mb c ||| cbit p)) c' p'
    rw [cb_add hp hp', bi_up hp hp', ← m1 c' p' hc' hp']
    by_cases e : c' = c ∧ p' = p
    · rw [if_pos e, decide_eq_true e, Bool.or_true]; decide
    · rw [if_neg e, decide_eq_false e, Bool.or_false]
  · show upd sz c (sz c + 1) c' = _ ∧ _
    by_cases e : c' = c
    · subst e
      have hs := nN_ul (f := bi im c') (g := bi (upd im (50 * c' + p) 1) c') (k := p) (j := 50) hn (by rw [bi_up hp hp, if_pos ⟨rfl, rfl⟩]; decide) hp (fun i hi q => by rw [bi_up hp hi, if_neg (fun z => q z.2)])
      rw [up_s, hs, (m2 c' hc').1, nI_1]
      exact ⟨rfl, by have := (m2 c' hc').2; omega⟩
    · rw [up_n e, bi_sz hp e]; exact m2 c' hc'
  · show upd co p (co p + 1) p' = _
    by_cases e : p' = p
    · subst e
      have hs : kO (upd im (50 * c + p') 1) p' = kO im p' + 1 := nN_ul (f := fun c => bi im c p') (k := c) hn (by (try dsimp only); rw [bi_up hp hp, if_pos ⟨rfl, rfl⟩]; decide) hc (fun i hi q => by (try dsimp only); rw [bi_up hp hp, if_neg (fun z => q z.1)])
      rw [up_s, hs, m3 p' hp', nI_1]
    · rw [up_n e, bi_co hp hp' e]; exact m3 p' hp'
theorem Mem_rem {w : qW} {im : qA} {c p : Nat} (h : Mem w im) (hc : c < 20) (hp : p < 50) (hn : bi im c p = true) : Mem (cRem c p w) (upd im (50 * c + p) 0) := by
  obtain ⟨kd, sz, mb, co⟩ := w
  obtain ⟨m1, m2, m3⟩ := h
  try dsimp only at m1 m2 m3
  refine ⟨fun c' p' hc' hp' => ?_, fun c' hc' => ?_, fun p' hp' => ?_⟩
  · show bi _ c' p' = cb (vp_updL mb c (mb c &&& (cbit p ^^^ (-1)))) c' p'
    rw [cb_rem hp hp', bi_up hp hp', ← m1 c' p' hc' hp']
    by_cases e : c' = c ∧ p' = p
    · rw [if_pos e, decide_eq_true e, Bool.not_true, Bool.and_false]; decide
    · rw [if_neg e, decide_eq_false e, Bool.not_false, Bool.and_true]
  · show upd sz c (sz c - 1) c' = _ ∧ _
    by_cases e : c' = c
    · subst e
      have hs := nN_ul (g := bi im c') (f := bi (upd im (50 * c' + p) 0) c') (k := p) (j := 50) (by rw [bi_up hp hp, if_pos ⟨rfl, rfl⟩]; decide) hn hp (fun i hi q => by rw [bi_up hp hi, if_neg (fun z => q z.2)])
      have := (m2 c' hc').2
      rw [up_s, (m2 c' hc').1, hs, nI_pr1 (by omega)]
      exact ⟨rfl, by omega⟩
    · rw [up_n e, bi_sz hp e]; exact m2 c' hc'
  · show upd co p (co p - 1) p' = _
    by_cases e : p' = p
    · subst e
      have hs : kO im p' = kO (upd im (50 * c + p') 0) p' + 1 := nN_ul (g := fun c => bi im c p') (k := c) (by (try dsimp only); rw [bi_up hp hp, if_pos ⟨rfl, rfl⟩]; decide) hn hc (fun i hi q => by (try dsimp only); rw [bi_up hp hp, if_neg (fun z => q z.1)])
      rw [up_s, m3 p' hp', hs, nI_pr1 (by omega)]
      rfl
    · rw [up_n e, bi_co hp hp' e]; exact m3 p' hp'
theorem q_oJoin {w : qW} {im : qA} {c p : Int32} (h : Mem w im) : oJoinM im c p = oJoin w c p := by
  unfold oJoinM oJoin
  cases c1 : iR 0 19 c with
  | false => rfl
  | true =>
    cases c2 : iR 0 49 p with
    | false => rfl
    | true =>
      obtain ⟨c, hc, rfl⟩ := iR_n (hi := 19) (by decide) c1
      obtain ⟨p, hp, rfl⟩ := iR_n (hi := 49) (by decide) c2
      rw [nI_clamp (show c < 2 ^ 31 by omega), nI_clamp (show p < 2 ^ 31 by omega), h.1 c p (by omega) (by omega)]
      obtain ⟨g1, g2⟩ := h.2.1 c (by omega)
      rw [g1, decide_eq_decide.mpr (show nN (bi im c) 50 = 12 ↔ 12 ≤ nI (nN (bi im c) 50) from ⟨fun z => by rw [z]; decide, fun z => by have := (nI_leI (a := 12) (by decide) (by omega)).mp z; omega⟩)]
theorem q_oLeave {w : qW} {im : qA} {c p : Int32} (h : Mem w im) : oLeaveM im c p = oLeave w c p := by
  unfold oLeaveM oLeave
  cases c1 : iR 0 19 c with
  | false => rfl
  | true =>
    cases c2 : iR 0 49 p with
    | false => rfl
    | true =>
      obtain ⟨c, hc, rfl⟩ := iR_n (hi := 19) (by decide) c1
      obtain ⟨p, hp, rfl⟩ := iR_n (hi := 49) (by decide) c2
      rw [nI_clamp (show c < 2 ^ 31 by omega), nI_clamp (show p < 2 ^ 31 by omega), h.1 c p (by omega) (by omega)]
theorem SR_join {s : qC} {t : qM} (h : SR s t) {c p : Int32} (ho : oJoinM t.2.2.2.2.2 c p = 0) (v : Int32) : SR (uW s (cAdd c.toNatClampNeg p.toNatClampNeg s.2.2.2.1)) (uTh (mIn t (50 * c.toNatClampNeg + p.toNatClampNeg) 1) v) ∧ (cAdd c.toNatClampNeg p.toNatClampNeg s.2.2.2.1).2.1 c.toNatClampNeg = nI (nN (bi (upd t.2.2.2.2.2 (50 * c.toNatClampNeg + p.toNatClampNeg) 1) c.toNatClampNeg) 50) := by
  obtain ⟨⟨n, h1, h2, h3⟩, e2, e3, e4, e5, e6, e7, e8, e9⟩ := h
  unfold oJoinM at ho
  cases c1 : iR 0 19 c with
  | false => rw [c1] at ho; cases ho
  | true =>
    cases c2 : iR 0 49 p with
    | false => rw [c1, c2] at ho; cases ho
    | true =>
      obtain ⟨c, hc, rfl⟩ := iR_n (hi := 19) (by decide) c1
      obtain ⟨p, hp, rfl⟩ := iR_n (hi := 49) (by decide) c2
      rw [nI_clamp (show c < 2 ^ 31 by omega), nI_clamp (show p < 2 ^ 31 by omega)] at ho ⊢
      rw [c1, c2] at ho
      cases c3 : bi t.2.2.2.2.2 c p with
      | true => rw [c3] at ho; cases ho
      | false =>
        by_cases c4 : nN (bi t.2.2.2.2.2 c) 50 = 12
        · rw [c3, decide_eq_true c4] at ho; cases ho
        · have hm := Mem_add e6 (show c < 20 by omega) (show p < 50 by omega) c3 c4
          refine ⟨⟨⟨n, h1, h2, h3⟩, e2, e3, ?_, ?_, hm, e7, e8, e9⟩, (hm.2.1 c (by omega)).1⟩
          · show t.2.2.2.2.1 = (cAdd c p s.2.2.2.1).1
            rw [e4]; rfl
          · exact e5
theorem SR_leave {s : qC} {t : qM} (h : SR s t) {c p : Int32} (ho : oLeaveM t.2.2.2.2.2 c p = 0) (v : Int32) : SR (uW s (cRem c.toNatClampNeg p.toNatClampNeg s.2.2.2.1)) (uTh (mIn t (50 * c.toNatClampNeg + p.toNatClampNeg) 0) v) ∧ (cRem c.toNatClampNeg p.toNatClampNeg s.2.2.2.1).2.1 c.toNatClampNeg = nI (nN (bi (upd t.2.2.2.2.2 (50 * c.toNatClampNeg + p.toNatClampNeg) 0) c.toNatClampNeg) 50) := by
  obtain ⟨⟨n, h1, h2, h3⟩, e2, e3, e4, e5, e6, e7, e8, e9⟩ := h
  unfold oLeaveM at ho
  cases c1 : iR 0 19 c with
  | false => rw [c1] at ho; cases ho
  | true =>
    cases c2 : iR 0 49 p with
    | false => rw [c1, c2] at ho; cases ho
    | true =>
      obtain ⟨c, hc, rfl⟩ := iR_n (hi := 19) (by decide) c1
      obtain ⟨p, hp, rfl⟩ := iR_n (hi := 49) (by decide) c2
      rw [nI_clamp (show c < 2 ^ 31 by omega), nI_clamp (show p < 2 ^ 31 by omega)] at ho ⊢
      rw [c1, c2] at ho
      cases c3 : bi t.2.2.2.2.2 c p with
      | false => rw [c3] at ho; cases ho
      | true =>
        have hm := Mem_rem e6 (show c < 20 by omega) (show p < 50 by omega) c3
        refine ⟨⟨⟨n, h1, h2, h3⟩, e2, e3, ?_, ?_, hm, e7, e8, e9⟩, (hm.2.1 c (by omega)).1⟩
        · show t.2.2.2.2.1 = (cRem c p s.2.2.2.1).1
          rw [e4]; rfl
        · exact e5
theorem SR_sign {s : qC} {t : qM} (h : SR s t) {n : Nat} {w : Int64} {m : Int32} (hn : s.1.2 = nI n) (hn3 : n ≤ 300) (ho : oSign s.1.2 m = 0) (v : Int32) : SR ((sT w m.toNatClampNeg s.1.1 n, nI (n + m.toNatClampNeg)), s.2) (uTh (mTape t (sT w m.toNatClampNeg t.2.1 n) (nI (n + m.toNatClampNeg))) v) := by
  obtain ⟨⟨n', h1, h2, h3⟩, e2, e3, e4, e5, e6, e7, e8, e9⟩ := h
  have : n' = n := by
    rw [hn] at h1
    have := h3.1
    exact (nI_inj9 (by omega) (by omega) h1).symm
  subst this
  have hm : n' + m.toNatClampNeg ≤ 300 := by
    unfold oSign at ho
    cases c1 : iR 1 8 m with
    | false => rw [c1] at ho; cases ho
    | true =>
      have g := iR_g c1
      have e1 : (1 : Int32).toInt = 1 := by decide
      have e0 : (0 : Int32).toInt = 0 := by decide
      obtain ⟨q, hq, rfl⟩ := iR_n (hi := 8) (v := m) (by decide) (iR_t (by have := g.1; rw [zn_le, e1] at this; rw [zn_le, e0]; omega) g.2)
      rw [nI_clamp (by omega)]
      rw [c1, h1] at ho
      by_cases c : 300 < nI n' + nI q
      · rw [decide_eq_true c] at ho; cases ho
      · have c := zn_ge.mp c
        rw [nI_add] at c
        exact (nI_leI (b := 300) (by omega) (by decide)).mp c
  refine ⟨⟨n' + m.toNatClampNeg, rfl, rfl, sT_by8 _ _ _ h3 hm⟩, ?_, e3, e4, e5, e6, e7, e8, e9⟩
  show sT w m.toNatClampNeg t.2.1 n' = _
  rw [e2]
theorem SR_new {l1 l2 : qA} (h : ∀ j, j < 10 → l1 j = -1) : SR (qNew l1 l2) mNew := by
  have hf : ∀ (f : Nat → Bool) j, (∀ i, i < j → f i = false) → nN f j = 0 := by
    intro f j hh
    rw [nN_c (g := fun _ => false) hh]
    clear hh
    induction j with
    | zero => rfl
    | succ j ih => rw [nN_f rfl]; exact ih
  refine ⟨⟨0, rfl, rfl, by decide, fun i hi => absurd hi (by omega)⟩, rfl, rfl, rfl, fun c hc => ⟨1, by decide, by decide, if_pos hc⟩, ⟨fun c p hc hp => ?_, fun c hc => ?_, fun p hp => ?_⟩, ⟨fun j hj => ?_, fun j hj hb => absurd (h j hj) hb, ⟨0, by decide, rfl, rfl, fun i hi => absurd hi (by omega)⟩, ?_⟩, rfl, fun i hi => ⟨⟨0, by decide, rfl⟩, ?_, ?_⟩⟩
  · show bi z0 c p = cb (fun _ => 0) c p
    unfold bi cb
    simp [z0]
  · have : nN (bi z0 c) 50 = 0 := hf _ _ (fun i _ => by unfold bi; simp [z0])
    show z0 c = nI (nN (bi z0 c) 50) ∧ nN (bi z0 c) 50 ≤ 12
    rw [this]
    exact ⟨rfl, by decide⟩
  · have : kO z0 p = 0 := hf _ _ (fun i _ => by unfold bi; simp [z0])
    show z0 p = nI (kO z0 p)
    rw [this]; rfl
  · show z0 (10 * 0 + j) = zb (!decide (l1 j = -1))
    rw [h j hj]; rfl
  · show (0 : Int32) = nI (nN (fun j => !decide (l1 j = -1)) 10)
    rw [hf _ _ (fun i hi => by rw [h i hi]; rfl)]; rfl
  · show iR (-1) 99999 (zj (-1) 50 i) = true
    rw [show zj (-1) 50 i = -1 from if_pos hi]; decide
  · show iR (-1) 99999 (zj (-1) 50 i) = true
    rw [show zj (-1) 50 i = -1 from if_pos hi]; decide
