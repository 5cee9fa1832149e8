/-! ===== the two states ===== -/
theorem aN_iff {f : Nat → Bool} : ∀ {j : Nat}, aN f j = true ↔ ∃ i, i < j ∧ f i = true := by
  intro j
  induction j with
  | zero => exact ⟨fun h => (by cases h), fun ⟨i, hi, _⟩ => absurd hi (by omega)⟩
  | succ j ih =>
    rw [aN_s, Bool.or_eq_true, ih]
    constructor
    · rintro (⟨i, hi, h⟩ | h)
      · exact ⟨i, by omega, h⟩
      · exact ⟨j, by omega, h⟩
    · rintro ⟨i, hi, h⟩
      by_cases e : i = j
      · exact Or.inr (e ▸ h)
      · exact Or.inl ⟨i, by omega, h⟩
theorem aN_c {f g : Nat → Bool} {j : Nat} (h : ∀ i, i < j → f i = g i) : aN f j = aN g j := by
  induction j with
  | zero => rfl
  | succ j ih => rw [aN_s, aN_s, ih (fun i hi => h i (by omega)), h j (Nat.lt_succ_self _)]
theorem fN_c {f g : Nat → Bool} : ∀ {j : Nat}, (∀ i, i < j → f i = g i) → fN f j = fN g j := by
  intro j
  induction j with
  | zero => intro _; rfl
  | succ j ih =>
    intro h
    unfold fN
    rw [ih (fun i hi => h i (by omega)), h j (Nat.lt_succ_self _)]
theorem nV_c {f g : Nat → Bool} : ∀ {d k : Nat} {l : Int32}, (∀ i, k ≤ i → i < k + d → f i = g i) → nV f d k l = nV g d k l := by
  intro d
  induction d with
  | zero => intro k l _; rfl
  | succ d ih =>
    intro k l h
    show (bif f k then (bif decide (l = 0) then nI k else nV f d (k + 1) (l - 1)) else nV f d (k + 1) l) = (bif g k then (bif decide (l = 0) then nI k else nV g d (k + 1) (l - 1)) else nV g d (k + 1) l)
    rw [h k (Nat.le_refl _) (by omega), ih (fun i h1 h2 => h i (by omega) (by omega)), ih (fun i h1 h2 => h i (by omega) (by omega))]
/-! bits -/
theorem bit_tp : ∀ j, j < 32 → ((1 : Int32) <<< (nI j &&& 31)).toBitVec = BitVec.twoPow 32 j := by decide +kernel
theorem or_bit {x y : Int32} {i : Nat} : (x ||| y).toBitVec.getLsbD i = (x.toBitVec.getLsbD i || y.toBitVec.getLsbD i) := by
  rw [Int32.toBitVec_or, BitVec.getLsbD_or]
theorem one_bit {j i : Nat} (hj : j < 32) : ((1 : Int32) <<< (nI j &&& 31)).toBitVec.getLsbD i = decide (i = j) := by
  rw [bit_tp j hj, BitVec.getLsbD_twoPow]
  by_cases e : i = j
  · subst e; simp [hj]
  · have : ¬ j = i := fun z => e z.symm
    simp [e, this]
theorem ph_bit {un : qA} {p : Nat} {h : Int32} : ∀ {j : Nat}, j ≤ 10 → ∀ i, (ph un p h j).toBitVec.getLsbD i = (decide (i < j) && kH un p i h) := by
  intro j
  induction j with
  | zero => intro _ i; simp [ph]
  | succ j ih =>
    intro hj i
    unfold ph
    by_cases c : un (10 * p + j) ≤ h
    · rw [if_pos c, ih (by omega)]
      by_cases e : i = j
      · subst e
        have : kH un p i h = false := by unfold kH; rw [decide_eq_true c]; rfl
        rw [this, Bool.and_false, Bool.and_false]
      · rw [decide_eq_decide.mpr (show i < j ↔ i < j + 1 by omega)]
    · rw [if_neg c, or_bit, ih (by omega), one_bit (by omega)]
      by_cases e : i = j
      · subst e
        have : kH un p i h = true := by unfold kH; rw [decide_eq_false c]; rfl
        rw [this]; simp
      · rw [decide_eq_decide.mpr (show i < j ↔ i < j + 1 by omega), decide_eq_false e, Bool.or_false]
theorem and0 {x y : Int32} : x &&& y = 0 ↔ ∀ i, ¬ (x.toBitVec.getLsbD i = true ∧ y.toBitVec.getLsbD i = true) := by
  constructor
  · intro h i ⟨h1, h2⟩
    have := congrArg (fun z => z.toBitVec.getLsbD i) h
    try dsimp only at this
    rw [Int32.toBitVec_and, BitVec.getLsbD_and, h1, h2] at this
    simp at this
  · intro h
    apply Int32.toBitVec_inj.mp
    apply BitVec.eq_of_getLsbD_eq
    intro i hi
    rw [Int32.toBitVec_and, BitVec.getLsbD_and]
    have := h i
    cases h1 : x.toBitVec.getLsbD i with
    | false => simp
    | true =>
      cases h2 : y.toBitVec.getLsbD i with
      | false => simp
      | true => exact absurd ⟨h1, h2⟩ this
theorem eq0 {x : Int32} : x = 0 ↔ ∀ i, ¬ x.toBitVec.getLsbD i = true := by
  constructor
  · intro h i; rw [h]; simp
  · intro h
    apply Int32.toBitVec_inj.mp
    apply BitVec.eq_of_getLsbD_eq
    intro i hi
    have := h i
    simp at this
    rw [this]; simp
theorem ba_bit {wa si fh lh : qA} {s : Nat} {d : Int32} (hs : s < 10) : ∀ {q : Nat}, (∀ k, k < q → ∃ u, u < 10 ∧ si k = nI u) → ∀ i, i < 10 → (ba wa si fh lh (nI s) d q).toBitVec.getLsbD i = (decide (i = s) || aN (fun k => decide (wa k = nI s) && (bw d (fh k) (lh k) && decide ((si k).toNatClampNeg = i))) q) := by
  intro q
  induction q with
  | zero =>
    intro _ i hi
    show ((1 : Int32) <<< (nI s &&& 31)).toBitVec.getLsbD i = _
    rw [one_bit (by omega)]
    exact (Bool.or_false _).symm
  | succ q ih =>
    intro hq i hi
    obtain ⟨u, hu, hu2⟩ := hq q (Nat.lt_succ_self _)
    unfold ba
    rw [aN_s]
    try dsimp only
    rw [hu2, nI_clamp (by omega)]
    cases c1 : decide (wa q = nI s) with
    | false =>
      rw [Bool.false_and, Bool.false_and, Bool.or_false]
      exact ih (fun k hk => hq k (by omega)) i hi
    | true =>
      cases c2 : bw d (fh q) (lh q) with
      | false =>
        rw [Bool.true_and, Bool.true_and, Bool.false_and, Bool.or_false]
        exact ih (fun k hk => hq k (by omega)) i hi
      | true =>
        rw [Bool.true_and, Bool.true_and, Bool.true_and]
        show (ba wa si fh lh (nI s) d q ||| _).toBitVec.getLsbD i = _
        rw [or_bit, ih (fun k hk => hq k (by omega)) i hi, one_bit (by omega), Bool.or_assoc, decide_eq_decide.mpr (show i = u ↔ u = i from ⟨Eq.symm, Eq.symm⟩)]
/-- whoever holds one of the skills that do, serves -/
theorem srv {un wa si fh lh : qA} {p s q : Nat} {h : Int32} (hs : s < 10) (hq : ∀ k, k < q → ∃ u, u < 10 ∧ si k = nI u) : (!decide (ph un p h 10 &&& ba wa si fh lh (nI s) (bd h) q = 0)) = kV un (wa, si, fh, lh) p s h q := by
  have E : (¬ ph un p h 10 &&& ba wa si fh lh (nI s) (bd h) q = 0) ↔ kV un (wa, si, fh, lh) p s h q = true := by
    rw [and0]
    unfold kV
    rw [Bool.or_eq_true, aN_iff]
    constructor
    · intro h1
      have h2 : ∃ i, (ph un p h 10).toBitVec.getLsbD i = true ∧ (ba wa si fh lh (nI s) (bd h) q).toBitVec.getLsbD i = true := by
        refine Classical.byContradiction (fun z => h1 (fun i hi => z ⟨i, hi⟩))
      obtain ⟨i, g1, g2⟩ := h2
      rw [ph_bit (Nat.le_refl _), Bool.and_eq_true] at g1
      have hi := of_decide_eq_true g1.1
      rw [ba_bit hs hq i hi, Bool.or_eq_true, aN_iff] at g2
      rcases g2 with g | ⟨k, hk, g⟩
      · have := of_decide_eq_true g
        subst this
        exact Or.inl g1.2
      · rw [Bool.and_eq_true, Bool.and_eq_true] at g
        have := of_decide_eq_true g.2.2
        refine Or.inr ⟨k, hk, ?_⟩
        unfold kX
        try dsimp only
        rw [g.1, g.2.1, this, g1.2]
        rfl
    · intro h1 h2
      rcases h1 with g | ⟨k, hk, g⟩
      · refine h2 s ⟨?_, ?_⟩
        · rw [ph_bit (Nat.le_refl _), g, decide_eq_true hs]; rfl
        · rw [ba_bit hs hq s hs, decide_eq_true rfl]; rfl
      · obtain ⟨u, hu, hu2⟩ := hq k hk
        unfold kX at g
        try dsimp only at g
        rw [hu2, nI_clamp (by omega), Bool.and_eq_true, Bool.and_eq_true] at g
        refine h2 u ⟨?_, ?_⟩
        · rw [ph_bit (Nat.le_refl _), g.2.2, decide_eq_true hu]; rfl
        · rw [ba_bit hs hq u hu, Bool.or_eq_true, aN_iff]
          refine Or.inr ⟨k, hk, ?_⟩
          rw [hu2, nI_clamp (by omega), g.1, g.2.1, decide_eq_true rfl]
          rfl
  cases e : kV un (wa, si, fh, lh) p s h q with
  | true => rw [decide_eq_false (E.mpr e)]; rfl
  | false =>
    have : ph un p h 10 &&& ba wa si fh lh (nI s) (bd h) q = 0 := by
      refine Classical.byContradiction (fun z => ?_)
      rw [E.mp z] at e
      cases e
    rw [decide_eq_true this]; rfl
theorem skd {un : qA} {p : Nat} {h : Int32} : (!decide (ph un p h 10 = 0)) = kK un h p := by
  have E : (¬ ph un p h 10 = 0) ↔ kK un h p = true := by
    unfold kK
    rw [eq0, aN_iff]
    constructor
    · intro h1
      have h2 : ∃ i, (ph un p h 10).toBitVec.getLsbD i = true := Classical.byContradiction (fun z => h1 (fun i hi => z ⟨i, hi⟩))
      obtain ⟨i, g1⟩ := h2
      rw [ph_bit (Nat.le_refl _), Bool.and_eq_true] at g1
      exact ⟨i, of_decide_eq_true g1.1, g1.2⟩
    · rintro ⟨i, hi, g⟩ h2
      refine h2 i ?_
      rw [ph_bit (Nat.le_refl _), g, decide_eq_true hi]; rfl
  cases e : kK un h p with
  | true => rw [decide_eq_false (E.mpr e)]; rfl
  | false =>
    have : ph un p h 10 = 0 := by
      refine Classical.byContradiction (fun z => ?_)
      rw [E.mp z] at e
      cases e
    rw [decide_eq_true this]; rfl
/-! who is in -/
def Mem (w : qW) (im : qA) : Prop := (∀ c p, c < 20 → p < 50 → bi im c p = cb w.2.2.1 c p) ∧ (∀ c, c < 20 → w.2.1 c = nI (nN (bi im c) 50) ∧ nN (bi im c) 50 ≤ 12) ∧ ∀ p, p < 50 → w.2.2.2 p = nI (kO im p)
def Peo (p : qP) : Prop := ∀ i, i < 50 → (∃ m, m ≤ 3 ∧ p.2.1 i = nI m) ∧ iR (-1) 99999 (p.2.2.1 i) = true ∧ iR (-1) 99999 (p.2.2.2.1 i) = true
theorem mk : ∀ m, m < 4 → ((!decide (nI m &&& 1 = 0)) = decide (nI m - nI m / 2 * 2 = 1)) ∧ (decide (nI m = 2) = (!decide (nI m - nI m / 2 * 2 = 1) && !decide (nI m < 2))) := by decide
theorem pl_lr {mr : qA} {p m : Nat} (hm : m ≤ 3) (h : mr p = nI m) : pl mr p = lr mr p := by
  unfold pl lr; rw [h]; exact (mk m (by omega)).1
theorem pm_lr {mr : qA} {p m : Nat} (hm : m ≤ 3) (h : mr p = nI m) : pm mr p = (!lr mr p && !decide (mr p < 2)) := by
  unfold pm lr; rw [h]; exact (mk m (by omega)).2
theorem ca_k {w : qW} {im : qA} (hM : Mem w im) {c p : Nat} (hc : c < 20) (hp : p < 50) : ca w.2.2.1 w.2.2.2 c p = (bi im c p && decide (kO im p = 1)) := by
  unfold ca
  rw [← hM.1 c p hc hp, hM.2.2 p hp]
  congr 1
  have := kO_le im p
  exact decide_eq_decide.mpr ⟨fun h => nI_inj9 (v := 1) (by omega) (by decide) h, fun h => by rw [h]; rfl⟩
theorem cm_k {w : qW} {im : qA} {pp : qP} (hM : Mem w im) (hP : Peo pp) {c : Nat} (hc : c < 20) : cm w.2.2.1 w.2.2.2 pp.2.1 c 50 = kM im pp.2.1 c := by
  have H : ∀ j, j ≤ 50 → cm w.2.2.1 w.2.2.2 pp.2.1 c j = aN (fun p => kF im pp.2.1 c p && !decide (pp.2.1 p < 2)) j := by
    intro j
    induction j with
    | zero => intro _; rfl
    | succ j ih =>
      intro hj
      obtain ⟨⟨m, hm, hm2⟩, -⟩ := hP j (by omega)
      rw [aN_s, ← ih (by omega)]
      show (cm w.2.2.1 w.2.2.2 pp.2.1 c j || (ca w.2.2.1 w.2.2.2 c j && pm pp.2.1 j)) = _
      rw [ca_k hM hc (by omega), pm_lr hm hm2]
      unfold kF
      try dsimp only
      cases bi im c j <;> cases decide (kO im j = 1) <;> cases lr pp.2.1 j <;> rfl
  exact H 50 (Nat.le_refl _)
theorem ck_k {w : qW} {im : qA} {pp : qP} (hM : Mem w im) (hP : Peo pp) {c p : Nat} (hc : c < 20) (hp : p < 50) : ck w.2.2.1 w.2.2.2 pp.2.1 c p = kC im pp.2.1 c p := by
  obtain ⟨⟨m, hm, hm2⟩, -⟩ := hP p hp
  unfold ck kC kF
  rw [ca_k hM hc hp, cm_k hM hP hc, pl_lr hm hm2]
  cases bi im c p <;> cases decide (kO im p = 1) <;> cases lr pp.2.1 p <;> cases kM im pp.2.1 c <;> rfl
theorem kF_k {w : qW} {im : qA} {pp : qP} (hM : Mem w im) (hP : Peo pp) {c p : Nat} (hc : c < 20) (hp : p < 50) : kF im pp.2.1 c p = (ck w.2.2.1 w.2.2.2 pp.2.1 c p && !pl pp.2.1 p) := by
  obtain ⟨⟨m, hm, hm2⟩, -⟩ := hP p hp
  unfold ck kF
  rw [ca_k hM hc hp, cm_k hM hP hc, pl_lr hm hm2]
  cases bi im c p <;> cases decide (kO im p = 1) <;> cases lr pp.2.1 p <;> cases kM im pp.2.1 c <;> rfl
/-! the group -/
theorem cg_count {mb : Nat → Int64} {co mr : qA} {c : Nat} (f : Nat → Bool) : ∀ j, (cg mb co mr c j).countP f = nN (fun p => ck mb co mr c p && f p) j
  | 0 => rfl
  | j + 1 => by
    unfold cg
    cases h : ck mb co mr c j with
    | true =>
      show (cg mb co mr c j ++ [j]).countP f = _
      rw [List.countP_append, cg_count f j]
      cases hf : f j with
      | true => rw [nN_t (by (try dsimp only); rw [h, hf]; rfl)]; simp [hf]
      | false => rw [nN_f (by (try dsimp only); rw [h, hf]; rfl)]; simp [hf]
    | false =>
      show (cg mb co mr c j).countP f = _
      rw [cg_count f j, nN_f (by (try dsimp only); rw [h]; rfl)]
theorem cg_length {mb : Nat → Int64} {co mr : qA} {c : Nat} : ∀ j, (cg mb co mr c j).length = nN (ck mb co mr c) j
  | 0 => rfl
  | j + 1 => by
    unfold cg
    cases h : ck mb co mr c j with
    | true =>
      show (cg mb co mr c j ++ [j]).length = _
      rw [List.length_append, cg_length j, nN_t h]; rfl
    | false =>
      show (cg mb co mr c j).length = _
      rw [cg_length j, nN_f h]
theorem cg_any {mb : Nat → Int64} {co mr : qA} {c : Nat} (f : Nat → Bool) : ∀ j, (cg mb co mr c j).any f = aN (fun p => ck mb co mr c p && f p) j
  | 0 => rfl
  | j + 1 => by
    rw [aN_s, ← cg_any f j]
    show (bif ck mb co mr c j then cg mb co mr c j ++ [j] else cg mb co mr c j).any f = _
    cases h : ck mb co mr c j with
    | true =>
      show (cg mb co mr c j ++ [j]).any f = _
      rw [List.any_append]
      simp
    | false =>
      show (cg mb co mr c j).any f = _
      simp
theorem cg_lead {mb : Nat → Int64} {co mr rk : qA} {c : Nat} : ∀ j, (cg mb co mr c j).foldl (gb rk mr) none = kB rk (fun p => ck mb co mr c p && !pl mr p) j
  | 0 => rfl
  | j + 1 => by
    unfold cg kB
    try dsimp only
    cases h : ck mb co mr c j with
    | true =>
      show (cg mb co mr c j ++ [j]).foldl (gb rk mr) none = _
      rw [List.foldl_append, cg_lead j]
      show gb rk mr (kB rk (fun p => ck mb co mr c p && !pl mr p) j) j = _
      unfold gb
      cases pl mr j with
      | true => rfl
      | false => rfl
    | false =>
      show (cg mb co mr c j).foldl (gb rk mr) none = _
      rw [cg_lead j]
      rfl
theorem kB_c {rk : qA} {f g : Nat → Bool} : ∀ {j : Nat}, (∀ i, i < j → f i = g i) → kB rk f j = kB rk g j := by
  intro j
  induction j with
  | zero => intro _; rfl
  | succ j ih =>
    intro h
    unfold kB
    rw [ih (fun i hi => h i (by omega)), h j (Nat.lt_succ_self _)]
theorem range_count (f : Nat → Bool) : ∀ j, (List.range j).countP f = nN f j
  | 0 => rfl
  | j + 1 => by
    rw [List.range_succ, List.countP_append, range_count f j]
    cases h : f j with
    | true => rw [nN_t h]; simp [h]
    | false => rw [nN_f h]; simp [h]
