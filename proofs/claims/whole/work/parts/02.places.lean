/-! ===== a machine of PLACES over the kit's W: values whose references are places in a list of cells ===== -/
/-- a value as the heap has it: a place becomes its address -/
def zz_V (ad : Nat → Nat) : Value → Value
  | .ref k => .ref (ad k)
  | v => v
theorem zz_V_cat (ad : Nat → Nat) (v : Value) : (zz_V ad v).category = v.category := by cases v <;> rfl
def zz_E (cT : Nat → ClassId) (ad : Nat → Nat) : va_E → va_E
  | .inl a => .inl (cT a.1, a.2)
  | .inr o => .inr (o.1, o.2.map (zz_V ad))
/-- the cells as the kit has them -/
def zz_C (cT : Nat → ClassId) (ad : Nat → Nat) (ws : List va_E) : va_W := ws.mapIdx (fun k e => (ad k, zz_E cT ad e))
theorem zz_C_get {cT : Nat → ClassId} {ad : Nat → Nat} {ws : List va_E} {k : Nat} {e : va_E} (h : ws[k]? = some e) : (zz_C cT ad ws)[k]? = some (ad k, zz_E cT ad e) := by
  simp [zz_C, List.getElem?_mapIdx, h]
theorem zz_C_set {cT : Nat → ClassId} {ad : Nat → Nat} {ws : List va_E} {k : Nat} {e : va_E} : zz_C cT ad (ws.set k e) = (zz_C cT ad ws).set k (ad k, zz_E cT ad e) := by
  apply List.ext_getElem?
  intro j
  by_cases hj : k = j
  · subst hj
    by_cases hl : k < ws.length
    · simp [zz_C, List.getElem?_mapIdx, List.getElem?_set, hl]
    · simp [zz_C, List.getElem?_mapIdx, List.getElem?_set, hl]
  · simp [zz_C, List.getElem?_mapIdx, List.getElem?_set, hj]
theorem zz_C_push {cT : Nat → ClassId} {ad : Nat → Nat} {ws : List va_E} {e : va_E} : zz_C cT ad (ws ++ [e]) = zz_C cT ad ws ++ [(ad ws.length, zz_E cT ad e)] := by
  simp [zz_C, List.mapIdx_append]
/-! references that lie below n -/
def zz_cv (n : Nat) : Value → Bool
  | .ref k => Nat.blt k n
  | _ => true
def zz_ce (n : Nat) : va_E → Bool
  | .inl _ => true
  | .inr o => o.2.all (zz_cv n)
def zz_co (n : Nat) : Option Value → Bool
  | some v => zz_cv n v
  | none => true
def zz_cl (n : Nat) (ls : List (Option Value)) (st : List Value) (ws : List va_E) : Bool := ls.all (zz_co n) && (st.all (zz_cv n) && ws.all (zz_ce n))
theorem zz_cv_eq {n : Nat} {ad ad' : Nat → Nat} (h : ∀ k, k < n → ad' k = ad k) {v : Value} (hv : zz_cv n v = true) : zz_V ad' v = zz_V ad v := by
  cases v with
  | ref k =>
    have hk : k < n := Nat.blt_eq.mp hv
    show Value.ref (ad' k) = Value.ref (ad k)
    rw [h k hk]
  | _ => rfl
theorem zz_ce_eq {n : Nat} {cT : Nat → ClassId} {ad ad' : Nat → Nat} (h : ∀ k, k < n → ad' k = ad k) {e : va_E} (he : zz_ce n e = true) : zz_E cT ad' e = zz_E cT ad e := by
  cases e with
  | inl a => rfl
  | inr o =>
    show Sum.inr (o.1, o.2.map (zz_V ad')) = Sum.inr (o.1, o.2.map (zz_V ad))
    have h1 : ∀ v ∈ o.2, zz_V ad' v = zz_V ad v := fun v hv => zz_cv_eq h (List.all_eq_true.mp he v hv)
    rw [List.map_congr_left h1]
theorem zz_C_eq {n : Nat} {cT : Nat → ClassId} {ad ad' : Nat → Nat} {ws : List va_E} (h : ∀ k, k < n → ad' k = ad k) (hn : ws.length ≤ n) (hc : ws.all (zz_ce n) = true) : zz_C cT ad' ws = zz_C cT ad ws := by
  apply List.ext_getElem?
  intro j
  cases hj : ws[j]? with
  | none => simp [zz_C, List.getElem?_mapIdx, hj]
  | some e =>
    rw [zz_C_get hj, zz_C_get hj, zz_ce_eq h (List.all_eq_true.mp hc e (List.mem_of_getElem? hj)), h j (Nat.lt_of_lt_of_le (List.getElem?_eq_some_iff.mp hj).1 hn)]
theorem zz_st_eq {n : Nat} {ad ad' : Nat → Nat} {st : List Value} (h : ∀ k, k < n → ad' k = ad k) (hc : st.all (zz_cv n) = true) : st.map (zz_V ad') = st.map (zz_V ad) :=
  List.map_congr_left fun v hv => zz_cv_eq h (List.all_eq_true.mp hc v hv)
/-! the frame's own slots, by their numbers; none: not known -/
def zz_L (lsA : Array Slot) (nL : Nat) (ad : Nat → Nat) (ls : List (Option Value)) : Prop := ls.length = nL ∧ lsA.size = nL ∧ lv_wf lsA ∧ ∀ (i : Nat) (v : Value), ls[i]? = some (some v) → lsA[i]? = some (.val (zz_V ad v))
def zz_pr (ad : Nat → Nat) (ls : List (Option Value)) : List (Nat × Value) := (ls.mapIdx (fun i o => (i, o))).filterMap (fun q => q.2.map (fun v => (q.1, zz_V ad v)))
theorem zz_pr_mem {ad : Nat → Nat} {ls : List (Option Value)} {q : Nat × Value} : q ∈ zz_pr ad ls ↔ ∃ v, ls[q.1]? = some (some v) ∧ q.2 = zz_V ad v := by
  unfold zz_pr
  rw [List.mem_filterMap]
  constructor
  · rintro ⟨⟨i, o⟩, h1, h2⟩
    rw [List.mem_iff_getElem?] at h1
    obtain ⟨j, hj⟩ := h1
    rw [List.getElem?_mapIdx] at hj
    cases hl : ls[j]? with
    | none => rw [hl] at hj; cases hj
    | some o' =>
      rw [hl] at hj
      cases hj
      cases o with
      | none => cases h2
      | some v =>
        cases h2
        exact ⟨v, hl, rfl⟩
  · rintro ⟨v, h1, h2⟩
    refine ⟨(q.1, some v), ?_, ?_⟩
    · rw [List.mem_iff_getElem?]
      exact ⟨q.1, by rw [List.getElem?_mapIdx, h1]; rfl⟩
    · show some (q.1, zz_V ad v) = some q
      rw [← h2]
theorem zz_L.has {lsA : Array Slot} {nL : Nat} {ad : Nat → Nat} {ls : List (Option Value)} (h : zz_L lsA nL ad ls) : lv_has lsA nL (zz_pr ad ls) :=
  ⟨h.2.1, h.2.2.1, fun q hq => by
    obtain ⟨v, h1, h2⟩ := zz_pr_mem.mp hq
    rw [h2]
    exact h.2.2.2 _ _ h1⟩
theorem zz_L.at {lsA : Array Slot} {nL : Nat} {ad : Nat → Nat} {ls : List (Option Value)} (h : zz_L lsA nL ad ls) {i : Nat} {v : Value} (hi : ls[i]? = some (some v)) : lsA[i]? = some (.val (zz_V ad v)) := h.2.2.2 i v hi
/-- a long or a double that ends at place i is gone -/
def zz_kill (ls : List (Option Value)) : Nat → List (Option Value)
  | 0 => ls
  | j + 1 => match ls[j]? with
    | some (some (.long _)) => ls.set j none
    | some (some (.double _)) => ls.set j none
    | _ => ls
def zz_s1 (ls : List (Option Value)) (i : Nat) (v : Value) : List (Option Value) := (zz_kill ls i).set i (some v)
def zz_s2 (ls : List (Option Value)) (i : Nat) (v : Value) : List (Option Value) := ((zz_kill ls i).set (i + 1) none).set i (some v)
theorem zz_kill_len (ls : List (Option Value)) (i : Nat) : (zz_kill ls i).length = ls.length := by
  cases i with
  | zero => rfl
  | succ j =>
    dsimp only [zz_kill]
    split <;> simp
theorem zz_kill_get {ls : List (Option Value)} {i j : Nat} {w : Value} (h : (zz_kill ls i)[j]? = some (some w)) : ls[j]? = some (some w) ∧ ¬ (j + 1 = i ∧ w.category = 2) := by
  cases i with
  | zero => exact ⟨h, fun q => by omega⟩
  | succ n =>
    dsimp only [zz_kill] at h
    split at h
    · by_cases e : n = j
      · subst e
        by_cases hl : n < ls.length <;> simp [List.getElem?_set, hl] at h
      · rw [List.getElem?_set_ne e] at h
        exact ⟨h, fun q => by omega⟩
    · by_cases e : n = j
      · subst e
        by_cases hl : n < ls.length <;> simp [List.getElem?_set, hl] at h
      · rw [List.getElem?_set_ne e] at h
        exact ⟨h, fun q => by omega⟩
    · rename_i h1 h2
      refine ⟨h, fun q => ?_⟩
      obtain ⟨q1, q2⟩ := q
      have e : n = j := by omega
      subst e
      cases w with
      | long x => exact h1 x h
      | double x => exact h2 x h
      | _ => simp [Value.category] at q2
theorem zz_L.s1 {ls' : Array Slot} {nL : Nat} {ad : Nat → Nat} {ls : List (Option Value)} {i : Nat} {v : Value} (hlen : ls.length = nL)
    (h : lv_has ls' nL ((i, zz_V ad v) :: (zz_pr ad ls).filter (fun q => !(q.1 == i) && !(q.1 + 1 == i && q.2.category == 2)))) : zz_L ls' nL ad (zz_s1 ls i v) := by
  refine ⟨by simp [zz_s1, zz_kill_len, hlen], h.1, h.2.1, fun j w hj => ?_⟩
  by_cases e : i = j
  · subst e
    have hl : i < (zz_kill ls i).length := by
      have := (List.getElem?_eq_some_iff.mp hj).1
      simpa [zz_s1] using this
    unfold zz_s1 at hj
    rw [List.getElem?_set_self hl] at hj
    cases hj
    exact h.2.2 (i, zz_V ad v) List.mem_cons_self
  · unfold zz_s1 at hj
    rw [List.getElem?_set_ne e] at hj
    obtain ⟨h1, h2⟩ := zz_kill_get hj
    refine h.2.2 (j, zz_V ad w) (List.mem_cons_of_mem _ (List.mem_filter.mpr ⟨zz_pr_mem.mpr ⟨w, h1, rfl⟩, ?_⟩))
    have e1 : (j == i) = false := by simp; exact fun q => e q.symm
    have e2 : (j + 1 == i && (zz_V ad w).category == 2) = false := by
      rw [zz_V_cat]
      by_cases q : j + 1 = i
      · have q2 : ¬ w.category = 2 := fun z => h2 ⟨q, z⟩
        simp [q2]
      · simp [q]
    show (!(j == i) && !(j + 1 == i && (zz_V ad w).category == 2)) = true
    rw [e1, e2]
    rfl
theorem zz_L.s2 {ls' : Array Slot} {nL : Nat} {ad : Nat → Nat} {ls : List (Option Value)} {i : Nat} {v : Value} (hlen : ls.length = nL)
    (h : lv_has ls' nL ((i, zz_V ad v) :: (zz_pr ad ls).filter (fun q => !(q.1 == i) && (!(q.1 == i + 1) && !(q.1 + 1 == i && q.2.category == 2))))) : zz_L ls' nL ad (zz_s2 ls i v) := by
  refine ⟨by simp [zz_s2, zz_kill_len, hlen], h.1, h.2.1, fun j w hj => ?_⟩
  by_cases e : i = j
  · subst e
    have hl : i < ((zz_kill ls i).set (i + 1) none).length := by
      have := (List.getElem?_eq_some_iff.mp hj).1
      simpa [zz_s2] using this
    unfold zz_s2 at hj
    rw [List.getElem?_set_self hl] at hj
    cases hj
    exact h.2.2 (i, zz_V ad v) List.mem_cons_self
  · unfold zz_s2 at hj
    rw [List.getElem?_set_ne e] at hj
    by_cases e3 : i + 1 = j
    · subst e3
      by_cases hl : i + 1 < (zz_kill ls i).length <;> simp [List.getElem?_set, hl] at hj
    · rw [List.getElem?_set_ne e3] at hj
      obtain ⟨h1, h2⟩ := zz_kill_get hj
      refine h.2.2 (j, zz_V ad w) (List.mem_cons_of_mem _ (List.mem_filter.mpr ⟨zz_pr_mem.mpr ⟨w, h1, rfl⟩, ?_⟩))
      have e1 : (j == i) = false := by simp; exact fun q => e q.symm
      have e4 : (j == i + 1) = false := by simp; exact fun q => e3 q.symm
      have e2 : (j + 1 == i && (zz_V ad w).category == 2) = false := by
        rw [zz_V_cat]
        by_cases q : j + 1 = i
        · have q2 : ¬ w.category = 2 := fun z => h2 ⟨q, z⟩
          simp [q2]
        · simp [q]
      show (!(j == i) && (!(j == i + 1) && !(j + 1 == i && (zz_V ad w).category == 2))) = true
      rw [e1, e4, e2]
      rfl
/-- no long or double ends at place i -/
def zz_nl (ls : List (Option Value)) : Nat → Bool
  | 0 => true
  | j + 1 => match ls[j]? with
    | some (some (.long _)) => false
    | some (some (.double _)) => false
    | _ => true
theorem zz_s1_nl {ls : List (Option Value)} {i : Nat} {v : Value} (h : zz_nl ls i = true) : zz_s1 ls i v = ls.set i (some v) := by
  unfold zz_s1
  cases i with
  | zero => rfl
  | succ j =>
    dsimp only [zz_nl] at h
    dsimp only [zz_kill]
    split at h
    · cases h
    · cases h
    · rfl
/-- fewer known ones -/
def zz_mask (ms : List Bool) (ls : List (Option Value)) : List (Option Value) := List.zipWith (fun b o => bif b then o else none) ms ls
theorem zz_L.mask {lsA : Array Slot} {nL : Nat} {ad : Nat → Nat} {ls : List (Option Value)} (h : zz_L lsA nL ad ls) (ms : List Bool) (hm : ms.length = nL) : zz_L lsA nL ad (zz_mask ms ls) := by
  refine ⟨by simp [zz_mask, hm, h.1], h.2.1, h.2.2.1, fun i v hi => ?_⟩
  unfold zz_mask at hi
  rw [List.getElem?_zipWith] at hi
  cases h1 : ms[i]? with
  | none => rw [h1] at hi; cases hi
  | some b =>
    cases h2 : ls[i]? with
    | none => rw [h1, h2] at hi; cases hi
    | some o =>
      rw [h1, h2] at hi
      cases b with
      | false => cases hi
      | true =>
        have e : o = some v := Option.some.inj hi
        rw [e] at h2
        exact h.2.2.2 i v h2
theorem zz_L.eq {lsA : Array Slot} {nL n : Nat} {ad ad' : Nat → Nat} {ls : List (Option Value)} (h : zz_L lsA nL ad ls) (ha : ∀ k, k < n → ad' k = ad k) (hc : ls.all (zz_co n) = true) : zz_L lsA nL ad' ls := by
  refine ⟨h.1, h.2.1, h.2.2.1, fun i v hi => ?_⟩
  have h1 : zz_co n (some v) = true := List.all_eq_true.mp hc _ (List.mem_of_getElem? hi)
  rw [zz_cv_eq ha h1]
  exact h.2.2.2 i v hi
