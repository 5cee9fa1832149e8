/-! ===== the two readers ===== -/
theorem up_s {f : qA} {i : Nat} {v : Int32} : upd f i v i = v := if_pos rfl
theorem up_n {f : qA} {i j : Nat} {v : Int32} (h : ¬ j = i) : upd f i v j = f j := if_neg h
theorem mn_tn0 {tb : qA} {n a lo hi a1 : Nat} (h : tn tb n a lo hi = (none, a1)) : (mn tb n (sk tb n a) lo hi).2.2 = some a1 := by
  unfold tn at h
  unfold mn
  generalize sk tb n a = s at h ⊢
  cases h1 : dv tb n s with
  | none =>
    rw [h1] at h
    cases h
    rfl
  | some d =>
    rw [h1] at h
    dsimp only at h ⊢
    cases h2 : dv tb n (s + 1) with
    | none =>
      rw [h2] at h
      dsimp only at h
      by_cases c : lo ≤ d ∧ d ≤ hi
      · rw [if_pos c] at h; cases h
      · rw [if_neg c] at h
        cases h
        rw [show (if d = 0 then none else (none : Option Nat)) = none by split <;> rfl]
        dsimp only
        by_cases c2 : d = 0 ∧ 0 < lo
        · rw [if_pos c2]
        · rw [if_neg c2, if_neg c]
    | some e =>
      rw [h2] at h
      dsimp only at h
      by_cases d0 : d = 0
      · subst d0
        rw [if_pos rfl] at h
        rw [if_pos rfl]
        dsimp only
        by_cases l0 : lo = 0
        · subst l0
          rw [if_pos rfl] at h
          cases h
          rw [if_neg (by omega), if_pos ⟨Nat.le_refl _, Nat.zero_le _⟩]
          rfl
        · rw [if_neg l0] at h
          cases h
          rw [if_pos ⟨rfl, by omega⟩]
      · rw [if_neg d0] at h
        rw [if_neg d0]
        dsimp only
        by_cases c : lo ≤ 10 * d + e ∧ 10 * d + e ≤ hi
        · rw [if_pos c] at h; cases h
        · rw [if_neg c] at h
          cases h
          rw [if_neg c]
theorem mn_tn1 {tb : qA} {n a lo hi v a1 : Nat} (h : tn tb n a lo hi = (some v, a1)) : mn tb n (sk tb n a) lo hi = (nI v, a1, if (dv tb n a1).isSome = true then some a1 else none) ∧ (hi ≤ 9 → dv tb n a1 = none) := by
  unfold tn at h
  unfold mn
  generalize sk tb n a = s at h ⊢
  cases h1 : dv tb n s with
  | none =>
    rw [h1] at h
    cases h
  | some d =>
    rw [h1] at h
    dsimp only at h ⊢
    cases h2 : dv tb n (s + 1) with
    | none =>
      rw [h2] at h
      dsimp only at h
      by_cases c : lo ≤ d ∧ d ≤ hi
      · rw [if_pos c] at h
        cases h
        rw [show (if v = 0 then none else (none : Option Nat)) = none by split <;> rfl]
        dsimp only
        rw [if_neg (show ¬ (v = 0 ∧ 0 < lo) by omega), if_pos c, h2]
        exact ⟨rfl, fun _ => rfl⟩
      · rw [if_neg c] at h; cases h
    | some e =>
      rw [h2] at h
      dsimp only at h
      by_cases d0 : d = 0
      · rw [if_pos d0] at h; cases h
      · rw [if_neg d0] at h
        rw [if_neg d0]
        dsimp only
        by_cases c : lo ≤ 10 * d + e ∧ 10 * d + e ≤ hi
        · rw [if_pos c] at h
          cases h
          rw [if_pos c]
          exact ⟨rfl, fun h9 => by omega⟩
        · rw [if_neg c] at h; cases h
theorem iR_97 {x : Int32} {d : Nat} (hd : d < 10) (h : x - 97 = nI d) : iR 97 106 x = true := by
  have e : x = nI (97 + d) := by
    have : x = nI d + 97 := by rw [← h, Int32.sub_add_cancel]
    rw [this]
    show nI d + nI 97 = _
    rw [nI_add, Nat.add_comm]
  rw [e]
  exact iR_t (nI_le (a := 97) (by omega) (by omega)) (nI_le (b := 106) (by omega) (by omega))
theorem mL_0 {tb : qA} {n a a1 : Nat} (h8 : by8 tb n) (ha : a ≤ n) (h : tsk tb n a = (none, a1)) : mL tb n (sk tb n a) = (0, a1, some a1) := by
  unfold tsk at h
  by_cases c : sk tb n a < n ∧ 97 ≤ tb (sk tb n a) ∧ tb (sk tb n a) ≤ 106
  · rw [if_pos c] at h; cases h
  · rw [if_neg c] at h
    cases h
    unfold mL
    have : iR 97 106 (bt tb n (sk tb n a)) = false := by
      by_cases hs : sk tb n a < n
      · rw [show bt tb n (sk tb n a) = tb (sk tb n a) from if_pos hs]
        cases e : iR 97 106 (tb (sk tb n a)) with
        | false => rfl
        | true => exact absurd ⟨hs, iR_g e⟩ c
      · rw [show bt tb n (sk tb n a) = -1 from if_neg hs]; decide
    rw [this]
    rfl
theorem mL_1 {tb : qA} {n a a1 v : Nat} (h8 : by8 tb n) (ha : a ≤ n) (h : tsk tb n a = (some v, a1)) : mL tb n (sk tb n a) = (nI v, a1, none) ∧ v < 10 := by
  have hv := ((tsk_le h8 ha).2.2 v (by rw [h])).1
  refine ⟨?_, hv⟩
  unfold tsk at h
  by_cases c : sk tb n a < n ∧ 97 ≤ tb (sk tb n a) ∧ tb (sk tb n a) ≤ 106
  · rw [if_pos c] at h
    obtain ⟨b, hb, e⟩ := h8.2 _ c.1
    unfold mL
    rw [show bt tb n (sk tb n a) = tb (sk tb n a) from if_pos c.1, iR_t c.2.1 c.2.2]
    rw [e] at h c ⊢
    have h97 : 97 ≤ b := (nI_leI (a := 97) (by decide) (by omega)).mp c.2.1
    have es : nI b - 97 = nI (b - 97) := by
      show nI b - nI 97 = _
      rw [pk_sub h97]
    rw [es, nI_clamp (by omega)] at h
    cases h
    show (nI b - 97, _, none) = _
    rw [es]
  · rw [if_neg c] at h; cases h
theorem tk_d {tb : qA} {n p : Nat} {c : Int32} (h8 : by8 tb n) (h : (dv tb n p).isSome = true) (hc : iR 48 57 c = false) : tk tb n p c = (false, p) := by
  have hp : p < n := by
    rcases Nat.lt_or_ge p n with q | q
    · exact q
    · rw [show dv tb n p = none from if_neg (fun z => absurd z.1 (by omega))] at h; cases h
  rw [dv_i h8 hp] at h
  have hs : sk tb n p = p := by
    rw [sk_step hp, if_neg]
    intro z
    rw [z] at h
    revert h
    decide
  unfold tk
  rw [hs, show bt tb n p = tb p from if_pos hp, if_neg]
  intro z
  rw [z, hc] at h
  cases h
theorem sk_sk {tb : qA} {n a : Nat} : sk tb n (sk tb n a) = sk tb n a := by
  have H : ∀ d a, n - a = d → sk tb n (sk tb n a) = sk tb n a := by
    intro d
    induction d with
    | zero => intro a h; rw [sk_end (show n ≤ a by omega), sk_end (show n ≤ a by omega)]
    | succ d ih =>
      intro a h
      rw [sk_step (show a < n by omega)]
      by_cases q : tb a = 32
      · rw [if_pos q]; exact ih (a + 1) (by omega)
      · rw [if_neg q, sk_step (show a < n by omega), if_neg q]
  exact H _ a rfl
theorem mE_t {t : qM} {w : Bool} {n a a2 : Nat} {c : Int32} (h : tk t.2.1 n a c = (true, a2)) : mE t w n a c = uAt t (nI a2) := by
  unfold tk at h
  unfold mE
  by_cases d : bt t.2.1 n (sk t.2.1 n a) = c
  · rw [if_pos d] at h ⊢; cases h; rfl
  · rw [if_neg d] at h; cases h
theorem mE_f {t : qM} {w : Bool} {n a a2 : Nat} {c : Int32} (h : tk t.2.1 n a c = (false, a2)) : mE t w n a c = uFl (uAt t (nI (a2 + 1))) w (nI a2) := by
  unfold tk at h
  unfold mE
  by_cases d : bt t.2.1 n (sk t.2.1 n a) = c
  · rw [if_pos d] at h; cases h
  · rw [if_neg d] at h ⊢; cases h; rfl
theorem mE_w {t : qM} {n a : Nat} {c : Int32} (h : t.1.2.2.2.2.1 = zb true) : mE t true n a c = uAt t (nI (sk t.2.1 n a + 1)) := by
  obtain ⟨⟨th, tp, ln, aa, wr, pl⟩, ta, H, Q⟩ := t
  dsimp only at h
  subst h
  unfold mE
  split <;> rfl
/-- what a reader of a piece says, and what the other, which fails at p -/
def okb (tb : qA) (n : Nat) (res : Bool × Nat × qB) (p : Nat) : Prop := res.2.1 = p ∧ (res.1 = true → (dv tb n p).isSome = true)
def lo (k : Nat) (x y : qA) : Prop := ∀ i, i < k → y i = x i
theorem lo_r {k : Nat} {x : qA} : lo k x x := fun _ _ => rfl
theorem lo_u {k i : Nat} {x y : qA} {v : Int32} (h : lo k x y) (hi : k ≤ i) : lo k x (upd y i v) := fun j hj => by rw [up_n (by omega)]; exact h j hj
/-- the lower half is the same -/
def lowEq (H H' : qH) : Prop := (lo 10 H.1.1 H'.1.1 ∧ lo 10 H.1.2.1 H'.1.2.1 ∧ lo 10 H.1.2.2.1 H'.1.2.2.1 ∧ lo 10 H.1.2.2.2.1 H'.1.2.2.2.1 ∧ lo 10 H.1.2.2.2.2.1 H'.1.2.2.2.2.1 ∧ lo 10 H.1.2.2.2.2.2 H'.1.2.2.2.2.2) ∧ (lo 60 H.2.1.1 H'.2.1.1 ∧ lo 60 H.2.1.2.1 H'.2.1.2.1 ∧ lo 60 H.2.1.2.2.1 H'.2.1.2.2.1 ∧ lo 60 H.2.1.2.2.2 H'.2.1.2.2.2) ∧ lo 1 H.2.2.1 H'.2.2.1 ∧ (lo 10 H.2.2.2.1 H'.2.2.2.1 ∧ lo 10 H.2.2.2.2.1 H'.2.2.2.2.1 ∧ lo 10 H.2.2.2.2.2.1 H'.2.2.2.2.2.1 ∧ lo 10 H.2.2.2.2.2.2 H'.2.2.2.2.2.2)
theorem lowEq_r {H : qH} : lowEq H H := ⟨⟨lo_r, lo_r, lo_r, lo_r, lo_r, lo_r⟩, ⟨lo_r, lo_r, lo_r, lo_r⟩, lo_r, ⟨lo_r, lo_r, lo_r, lo_r⟩⟩
theorem lo_t {k : Nat} {x y z : qA} (h : lo k x y) (g : lo k y z) : lo k x z := fun i hi => (g i hi).trans (h i hi)
theorem lowEq_t {H G K : qH} (h : lowEq H G) (g : lowEq G K) : lowEq H K := ⟨⟨lo_t h.1.1 g.1.1, lo_t h.1.2.1 g.1.2.1, lo_t h.1.2.2.1 g.1.2.2.1, lo_t h.1.2.2.2.1 g.1.2.2.2.1, lo_t h.1.2.2.2.2.1 g.1.2.2.2.2.1, lo_t h.1.2.2.2.2.2 g.1.2.2.2.2.2⟩, ⟨lo_t h.2.1.1 g.2.1.1, lo_t h.2.1.2.1 g.2.1.2.1, lo_t h.2.1.2.2.1 g.2.1.2.2.1, lo_t h.2.1.2.2.2 g.2.1.2.2.2⟩, lo_t h.2.2.1 g.2.2.1, ⟨lo_t h.2.2.2.1 g.2.2.2.1, lo_t h.2.2.2.2.1 g.2.2.2.2.1, lo_t h.2.2.2.2.2.1 g.2.2.2.2.2.1, lo_t h.2.2.2.2.2.2 g.2.2.2.2.2.2⟩⟩
/-- need i of rule j is the same -/
def relN (o : Nat) (b : qB) (H : qH) (j i : Nat) : Prop := H.2.1.1 (60 * o + (6 * j + i)) = b.2.2.1.2.1 (6 * j + i) ∧ H.2.1.2.1 (60 * o + (6 * j + i)) = b.2.2.1.2.2.1 (6 * j + i) ∧ H.2.1.2.2.1 (60 * o + (6 * j + i)) = b.2.2.1.2.2.2 (6 * j + i) ∧ H.2.1.2.2.2 (60 * o + (6 * j + i)) = b.2.2.1.1 (6 * j + i) ∧ (∃ e, b.2.2.1.1 (6 * j + i) = zb e) ∧ ∃ s, s < 10 ∧ b.2.2.1.2.2.1 (6 * j + i) = nI s
/-- rule j is the same -/
def relR (o : Nat) (b : qB) (H : qH) (j : Nat) : Prop := H.1.2.1 (10 * o + j) = b.1.1 j ∧ H.1.2.2.1 (10 * o + j) = b.1.2.1 j ∧ H.1.2.2.2.1 (10 * o + j) = b.1.2.2.1 j ∧ H.1.2.2.2.2.1 (10 * o + j) = b.1.2.2.2.1 j ∧ H.1.2.2.2.2.2 (10 * o + j) = b.1.2.2.2.2 j ∧ (b.1.2.2.1 j = -1 ∨ 0 ≤ b.1.2.2.1 j) ∧ (b.1.2.2.2.1 j = -1 ∨ 0 ≤ b.1.2.2.2.1 j) ∧ ∃ m, m ≤ 6 ∧ b.1.2.2.2.2 j = nI m ∧ ∀ i, i < m → relN o b H j i
def relS (o : Nat) (b : qB) (H : qH) (i : Nat) : Prop := H.2.2.2.1 (10 * o + i) = b.2.2.2.1.1 i ∧ H.2.2.2.2.1 (10 * o + i) = b.2.2.2.1.2.1 i ∧ H.2.2.2.2.2.1 (10 * o + i) = b.2.2.2.1.2.2.1 i ∧ H.2.2.2.2.2.2 (10 * o + i) = b.2.2.2.1.2.2.2 i ∧ (∃ u, u < 10 ∧ b.2.2.2.1.1 i = nI u) ∧ ∃ u, u < 10 ∧ b.2.2.2.1.2.1 i = nI u
/-- the class's book b and half o of the model's -/
def rel (o : Nat) (b : qB) (H : qH) : Prop := (∀ j, j < 10 → H.1.1 (10 * o + j) = zb (!decide (b.1.1 j = -1))) ∧ (∀ j, j < 10 → ¬ b.1.1 j = -1 → relR o b H j) ∧ (∃ q, q ≤ 10 ∧ b.2.2.2.2 = nI q ∧ H.2.2.1 o = nI q ∧ ∀ i, i < q → relS o b H i) ∧ b.2.1 = nI (nN (fun j => !decide (b.1.1 j = -1)) 10)
theorem rel_low {b : qB} {H H' : qH} (h : rel 0 b H) (l : lowEq H H') : rel 0 b H' := by
  obtain ⟨⟨l1, l2, l3, l4, l5, l6⟩, ⟨l7, l8, l9, l10⟩, l11, l12, l13, l14, l15⟩ := l
  obtain ⟨h1, h2, ⟨q, hq, hq1, hq2, h3⟩, h4⟩ := h
  refine ⟨fun j hj => ?_, fun j hj hb => ?_, ⟨q, hq, hq1, ?_, fun i hi => ?_⟩, h4⟩
  · rw [show 10 * 0 + j = j by omega, l1 j hj]; have := h1 j hj; rw [show 10 * 0 + j = j by omega] at this; exact this
  · obtain ⟨r1, r2, r3, r4, r5, w1, w2, m, hm, r6, r7⟩ := h2 j hj hb
    rw [show 10 * 0 + j = j by omega] at r1 r2 r3 r4 r5
    unfold relR
    rw [show 10 * 0 + j = j by omega, l2 j hj, l3 j hj, l4 j hj, l5 j hj, l6 j hj]
    refine ⟨r1, r2, r3, r4, r5, w1, w2, m, hm, r6, fun i hi => ?_⟩
    have r8 := r7 i hi
    unfold relN at r8 ⊢
    rw [show 60 * 0 + (6 * j + i) = 6 * j + i by omega] at r8 ⊢
    rw [l7 _ (by omega), l8 _ (by omega), l9 _ (by omega), l10 _ (by omega)]
    exact r8
  · rw [l11 0 (by decide)]; exact hq2
  · have r8 := h3 i hi
    unfold relS at r8 ⊢
    rw [show 10 * 0 + i = i by omega] at r8 ⊢
    rw [l12 _ (by omega), l13 _ (by omega), l14 _ (by omega), l15 _ (by omega)]
    exact r8
theorem nN_c {f g : Nat → Bool} : ∀ {j : Nat}, (∀ i, i < j → f i = g i) → nN f j = nN g j := by
  intro j
  induction j with
  | zero => intro _; rfl
  | succ j ih =>
    intro h
    show (bif f j then nN f j + 1 else nN f j) = (bif g j then nN g j + 1 else nN g j)
    rw [h j (Nat.lt_succ_self _), ih (fun i hi => h i (by omega))]
theorem nN_u {f g : Nat → Bool} {k : Nat} (hf : f k = false) (hg : g k = true) (h : ∀ i, ¬ i = k → g i = f i) : ∀ {j : Nat}, k < j → nN g j = nN f j + 1 := by
  intro j
  induction j with
  | zero => intro h; omega
  | succ j ih =>
    intro hk
    by_cases e : j = k
    · subst e
      rw [nN_t hg, nN_f hf, nN_c (fun i hi => h i (by omega))]
    · have := ih (by omega)
      cases hj : f j with
      | true => rw [nN_t hj, nN_t (by rw [h j e]; exact hj), this]
      | false => rw [nN_f hj, nN_f (by rw [h j e]; exact hj), this]
theorem rel_rule {b : qB} {td le ge re lg ne : qA} {N : qA × qA × qA × qA} {su : qA} {S : qA × qA × qA × qA} {j u v : Nat} (h : rel 1 b ((td, le, ge, re, lg, ne), N, su, S)) (hj : j < 10) (hb : b.1.1 j = -1) (hu : u < 10) :
    rel 1 (bRule b j (nI u) (nI v)) ((upd td (10 + j) 1, upd le (10 + j) (nI u), upd ge (10 + j) (nI v), upd re (10 + j) (-1), upd lg (10 + j) (-1), upd ne (10 + j) 0), N, su, S) := by
  obtain ⟨h1, h2, h3, h4⟩ := h
  have nu : ¬ nI u = -1 := nI_m1 (by omega)
  refine ⟨fun k hk => ?_, fun k hk hbk => ?_, h3, ?_⟩
  · show upd td (10 + j) 1 (10 * 1 + k) = zb (!decide (upd b.1.1 j (nI u) k = -1))
    by_cases e : k = j
    · subst e
      rw [show 10 * 1 + k = 10 + k by omega, up_s, up_s, decide_eq_false nu]; rfl
    · rw [up_n (by omega), up_n e]; exact h1 k hk
  · by_cases e : k = j
    · subst e
      unfold relR
      show upd le (10 + k) (nI u) (10 * 1 + k) = upd b.1.1 k (nI u) k ∧ upd ge (10 + k) (nI v) (10 * 1 + k) = upd b.1.2.1 k (nI v) k ∧ upd re (10 + k) (-1) (10 * 1 + k) = upd b.1.2.2.1 k (-1) k ∧ upd lg (10 + k) (-1) (10 * 1 + k) = upd b.1.2.2.2.1 k (-1) k ∧ upd ne (10 + k) 0 (10 * 1 + k) = upd b.1.2.2.2.2 k 0 k ∧ (upd b.1.2.2.1 k (-1) k = -1 ∨ 0 ≤ upd b.1.2.2.1 k (-1) k) ∧ (upd b.1.2.2.2.1 k (-1) k = -1 ∨ 0 ≤ upd b.1.2.2.2.1 k (-1) k) ∧ ∃ m, m ≤ 6 ∧ upd b.1.2.2.2.2 k 0 k = nI m ∧ _
      rw [show 10 * 1 + k = 10 + k by omega]
      simp only [up_s]
      exact ⟨trivial, trivial, trivial, trivial, trivial, Or.inl trivial, Or.inl trivial, 0, Nat.zero_le _, rfl, fun i hi => absurd hi (by omega)⟩
    · have hbk' : ¬ b.1.1 k = -1 := fun z => hbk (by show upd b.1.1 j (nI u) k = -1; rw [up_n e]; exact z)
      obtain ⟨r1, r2, r3, r4, r5, w1, w2, m, hm, r6, r7⟩ := h2 k hk hbk'
      refine ⟨?_, ?_, ?_, ?_, ?_, ?_, ?_, m, hm, ?_, r7⟩
      · show upd le (10 + j) (nI u) (10 * 1 + k) = upd b.1.1 j (nI u) k
        rw [up_n (by omega), up_n e]; exact r1
      · show upd ge (10 + j) (nI v) (10 * 1 + k) = upd b.1.2.1 j (nI v) k
        rw [up_n (by omega), up_n e]; exact r2
      · show upd re (10 + j) (-1) (10 * 1 + k) = upd b.1.2.2.1 j (-1) k
        rw [up_n (by omega), up_n e]; exact r3
      · show upd lg (10 + j) (-1) (10 * 1 + k) = upd b.1.2.2.2.1 j (-1) k
        rw [up_n (by omega), up_n e]; exact r4
      · show upd ne (10 + j) 0 (10 * 1 + k) = upd b.1.2.2.2.2 j 0 k
        rw [up_n (by omega), up_n e]; exact r5
      · show upd b.1.2.2.1 j (-1) k = -1 ∨ 0 ≤ upd b.1.2.2.1 j (-1) k
        rw [up_n e]; exact w1
      · show upd b.1.2.2.2.1 j (-1) k = -1 ∨ 0 ≤ upd b.1.2.2.2.1 j (-1) k
        rw [up_n e]; exact w2
      · show upd b.1.2.2.2.2 j 0 k = nI m
        rw [up_n e]; exact r6
  · show b.2.1 + 1 = nI (nN (fun k => !decide (upd b.1.1 j (nI u) k = -1)) 10)
    rw [nN_u (f := fun k => !decide (b.1.1 k = -1)) (k := j) (by (try dsimp only); rw [decide_eq_true hb]; rfl) (by (try dsimp only); rw [up_s, decide_eq_false nu]; rfl) (fun i hi => by (try dsimp only); rw [up_n hi]) hj, h4, nI_1]
theorem rel_rest {b : qB} {td le ge re lg ne : qA} {N : qA × qA × qA × qA} {su : qA} {S : qA × qA × qA × qA} {j : Nat} {v : Int32} (h : rel 1 b ((td, le, ge, re, lg, ne), N, su, S)) (hv : 0 ≤ v) :
    rel 1 ((b.1.1, b.1.2.1, upd b.1.2.2.1 j v, b.1.2.2.2), b.2) ((td, le, ge, upd re (10 + j) v, lg, ne), N, su, S) := by
  obtain ⟨h1, h2, h3, h4⟩ := h
  refine ⟨h1, fun k hk hbk => ?_, h3, h4⟩
  obtain ⟨r1, r2, r3, r4, r5, w1, w2, m, hm, r6, r7⟩ := h2 k hk hbk
  refine ⟨r1, r2, ?_, r4, r5, ?_, w2, m, hm, r6, r7⟩
  · show upd re (10 + j) v (10 * 1 + k) = upd b.1.2.2.1 j v k
    by_cases e : k = j
    · subst e; rw [show 10 * 1 + k = 10 + k by omega, up_s, up_s]
    · rw [up_n (by omega), up_n e]; exact r3
  · show upd b.1.2.2.1 j v k = -1 ∨ 0 ≤ upd b.1.2.2.1 j v k
    by_cases e : k = j
    · subst e; rw [up_s]; exact Or.inr hv
    · rw [up_n e]; exact w1
theorem rel_long {b : qB} {td le ge re lg ne : qA} {N : qA × qA × qA × qA} {su : qA} {S : qA × qA × qA × qA} {j : Nat} {v : Int32} (h : rel 1 b ((td, le, ge, re, lg, ne), N, su, S)) (hv : 0 ≤ v) :
    rel 1 ((b.1.1, b.1.2.1, b.1.2.2.1, upd b.1.2.2.2.1 j v, b.1.2.2.2.2), b.2) ((td, le, ge, re, upd lg (10 + j) v, ne), N, su, S) := by
  obtain ⟨h1, h2, h3, h4⟩ := h
  refine ⟨h1, fun k hk hbk => ?_, h3, h4⟩
  obtain ⟨r1, r2, r3, r4, r5, w1, w2, m, hm, r6, r7⟩ := h2 k hk hbk
  refine ⟨r1, r2, r3, ?_, r5, w1, ?_, m, hm, r6, r7⟩
  · show upd lg (10 + j) v (10 * 1 + k) = upd b.1.2.2.2.1 j v k
    by_cases e : k = j
    · subst e; rw [show 10 * 1 + k = 10 + k by omega, up_s, up_s]
    · rw [up_n (by omega), up_n e]; exact r4
  · show upd b.1.2.2.2.1 j v k = -1 ∨ 0 ≤ upd b.1.2.2.2.1 j v k
    by_cases e : k = j
    · subst e; rw [up_s]; exact Or.inr hv
    · rw [up_n e]; exact w2
theorem rel_need {b : qB} {td le ge re lg ne nn nk nr nx su : qA} {S : qA × qA × qA × qA} {j i s : Nat} {ex : Bool} {u y : Int32} (h : rel 1 b ((td, le, ge, re, lg, ne), (nn, nk, nr, nx), su, S)) (hj : j < 10) (hb : ¬ b.1.1 j = -1) (hi : i < 6) (hn : b.1.2.2.2.2 j = nI i) (hs : s < 10) :
    rel 1 (bNeed b j i ex u (nI s) y) ((td, le, ge, re, lg, upd ne (10 + j) (nI (i + 1))), (upd nn (60 + (6 * j + i)) u, upd nk (60 + (6 * j + i)) (nI s), upd nr (60 + (6 * j + i)) y, upd nx (60 + (6 * j + i)) (zb ex)), su, S) := by
  obtain ⟨h1, h2, h3, h4⟩ := h
  refine ⟨h1, fun k hk hbk => ?_, h3, h4⟩
  obtain ⟨r1, r2, r3, r4, r5, w1, w2, m, hm, r6, r7⟩ := h2 k hk hbk
  have K : ∀ k' i', ¬ 6 * k' + i' = 6 * j + i → relN 1 b ((td, le, ge, re, lg, ne), (nn, nk, nr, nx), su, S) k' i' → relN 1 (bNeed b j i ex u (nI s) y) ((td, le, ge, re, lg, upd ne (10 + j) (nI (i + 1))), (upd nn (60 + (6 * j + i)) u, upd nk (60 + (6 * j + i)) (nI s), upd nr (60 + (6 * j + i)) y, upd nx (60 + (6 * j + i)) (zb ex)), su, S) k' i' := by
    intro k' i' hne g
    unfold relN bNeed at *
    dsimp only at *
    rw [up_n (f := nn) (by omega), up_n (f := nk) (by omega), up_n (f := nr) (by omega), up_n (f := nx) (by omega), up_n (f := b.2.2.1.1) hne, up_n (f := b.2.2.1.2.1) hne, up_n (f := b.2.2.1.2.2.1) hne, up_n (f := b.2.2.1.2.2.2) hne]
    exact g
  by_cases e : k = j
  · subst e
    have hm2 : m = i := by
      rw [hn] at r6
      exact (nI_inj9 (by omega) (by omega) r6).symm
    refine ⟨r1, r2, r3, r4, ?_, w1, w2, i + 1, by omega, ?_, fun i' hi' => ?_⟩
    · show upd ne (10 + k) (nI (i + 1)) (10 * 1 + k) = upd b.1.2.2.2.2 k (nI (i + 1)) k
      rw [show 10 * 1 + k = 10 + k by omega, up_s, up_s]
    · show upd b.1.2.2.2.2 k (nI (i + 1)) k = nI (i + 1)
      rw [up_s]
    · by_cases e2 : i' = i
      · subst e2
        unfold relN bNeed
        dsimp only
        rw [show 60 * 1 + (6 * k + i') = 60 + (6 * k + i') by omega]
        simp only [up_s]
        exact ⟨trivial, trivial, trivial, trivial, ⟨ex, rfl⟩, s, hs, rfl⟩
      · exact K k i' (by omega) (r7 i' (by omega))
  · refine ⟨r1, r2, r3, r4, ?_, w1, w2, m, hm, ?_, fun i' hi' => K k i' (by omega) (r7 i' hi')⟩
    · show upd ne (10 + j) (nI (i + 1)) (10 * 1 + k) = upd b.1.2.2.2.2 j (nI (i + 1)) k
      rw [up_n (by omega), up_n e]; exact r5
    · show upd b.1.2.2.2.2 j (nI (i + 1)) k = nI m
      rw [up_n e]; exact r6
theorem rel_sub {b : qB} {A : qA × qA × qA × qA × qA × qA} {N : qA × qA × qA × qA} {su wa ot fm tz : qA} {q u v : Nat} {y z : Int32} (h : rel 1 b (A, N, su, (wa, ot, fm, tz))) (hq : q < 10) (hb : b.2.2.2.2 = nI q) (hu : u < 10) (hv : v < 10) :
    rel 1 (bSub b (nI u) (nI v) y z) (A, N, upd su 1 (nI (q + 1)), (upd wa (10 + q) (nI u), upd ot (10 + q) (nI v), upd fm (10 + q) y, upd tz (10 + q) z)) := by
  obtain ⟨h1, h2, ⟨q', hq', e1, e2, h3⟩, h4⟩ := h
  have : q' = q := by
    rw [hb] at e1
    exact (nI_inj9 (by omega) (by omega) e1).symm
  subst this
  have ec : b.2.2.2.2.toNatClampNeg = q' := by rw [hb]; exact nI_clamp (by omega)
  refine ⟨h1, h2, ⟨q' + 1, by omega, ?_, ?_, fun i hi => ?_⟩, h4⟩
  · show nI (b.2.2.2.2.toNatClampNeg + 1) = _
    rw [ec]
  · show upd su 1 (nI (q' + 1)) 1 = nI (q' + 1)
    exact up_s
  · unfold relS bSub
    dsimp only
    rw [ec]
    by_cases e : i = q'
    · subst e
      rw [show 10 * 1 + i = 10 + i by omega]
      simp only [up_s]
      exact ⟨trivial, trivial, trivial, trivial, ⟨u, hu, rfl⟩, v, hv, rfl⟩
    · have g := h3 i (by omega)
      unfold relS at g
      dsimp only at g
      rw [up_n (f := wa) (by omega), up_n (f := ot) (by omega), up_n (f := fm) (by omega), up_n (f := tz) (by omega), up_n (f := b.2.2.2.1.1) e, up_n (f := b.2.2.2.1.2.1) e, up_n (f := b.2.2.2.1.2.2.1) e, up_n (f := b.2.2.2.1.2.2.2) e]
      exact g
def rT (t : qM) (aa wr pl : Int32) (H : qH) : qM := ((t.1.1, t.1.2.1, t.1.2.2.1, aa, wr, pl), t.2.1, H, t.2.2.2)
/-- the model found it wrong -/
def Bd (tb : qA) (n : Nat) (res : Bool × Nat × qB) (B : Nat) (aa wr pl : Int32) : Prop := wr = zb true ∧ ∃ p a, pl = nI p ∧ okb tb n res p ∧ aa = nI a ∧ a < B
/-- the model is at a, and has book b -/
def Gd (n a : Nat) (b : qB) (pl0 aa wr pl : Int32) (H : qH) : Prop := wr = zb false ∧ pl = pl0 ∧ aa = nI a ∧ a ≤ n ∧ rel 1 b H
