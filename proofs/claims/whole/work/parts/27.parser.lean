/-! ===== Parser: the signs ===== -/
/-- the byte at place i, -1 behind the end -/
def bt (tb : qA) (n i : Nat) : Int32 := if i < n then tb i else -1
theorem tA_nI {tb : qA} {n i : Nat} (hn : n ≤ 300) (hi : i < 2 ^ 30) : tA tb n (nI i) = bt tb n i := by
  unfold tA bt
  by_cases h : i < n
  · rw [if_pos h, if_pos ⟨nI_pos' (by omega), nI_lt h (by omega)⟩, nI_clamp (by omega)]
  · rw [if_neg h, if_neg (fun q => h ((nI_ltI (by omega) (by omega)).mp q.2))]
/-- the bytes are bytes -/
def by8 (tb : qA) (n : Nat) : Prop := n ≤ 300 ∧ ∀ i, i < n → ∃ b, b < 256 ∧ tb i = nI b
def skr (tb : qA) (n : Nat) : Nat → Nat
  | 0 => n
  | d + 1 => if tb (n - (d + 1)) = 32 then skr tb n d else n - (d + 1)
/-- the first place from a on that holds no blank -/
def sk (tb : qA) (n a : Nat) : Nat := if n ≤ a then a else skr tb n (n - a)
theorem sk_end {tb : qA} {n a : Nat} (h : n ≤ a) : sk tb n a = a := if_pos h
theorem sk_step {tb : qA} {n a : Nat} (h : a < n) : sk tb n a = if tb a = 32 then sk tb n (a + 1) else a := by
  unfold sk
  rw [if_neg (by omega), show n - a = (n - (a + 1)) + 1 by omega]
  show (if tb (n - (n - (a + 1) + 1)) = 32 then skr tb n (n - (a + 1)) else n - (n - (a + 1) + 1)) = _
  rw [show n - (n - (a + 1) + 1) = a by omega]
  by_cases h2 : tb a = 32
  · rw [if_pos h2, if_pos h2]
    by_cases h3 : n ≤ a + 1
    · rw [if_pos h3, show n - (a + 1) = 0 by omega]
      show n = a + 1
      omega
    · rw [if_neg h3]
  · rw [if_neg h2, if_neg h2]
theorem sk_le {tb : qA} {n : Nat} : ∀ (d a : Nat), n - a = d → a ≤ n → a ≤ sk tb n a ∧ sk tb n a ≤ n := by
  intro d
  induction d with
  | zero => intro a h1 h2; rw [sk_end (by omega)]; exact ⟨Nat.le_refl _, h2⟩
  | succ d ih =>
    intro a h1 h2
    rw [sk_step (by omega)]
    by_cases h : tb a = 32
    · rw [if_pos h]
      have := ih (a + 1) (by omega) (by omega)
      omega
    · rw [if_neg h]
      omega
theorem sk_b {tb : qA} {n a : Nat} (h : a ≤ n) : a ≤ sk tb n a ∧ sk tb n a ≤ n := sk_le (n - a) a rfl h
def pt_Pa_peek : zz_PT := fun As ws k _ => ∃ (s : qC) (R : List va_E) (n a : Nat), s.1.2 = nI n ∧ s.2.1 = nI a ∧ n ≤ 300 ∧ a ≤ n ∧ As = [.ref 3] ∧ ws = gC s ++ R ∧ k (some (.int (bt s.1.1 n (sk s.1.1 n a)))) (gC (s.1, nI (sk s.1.1 n a), s.2.2) ++ R)
set_option maxHeartbeats 4000000 in
set_option maxRecDepth 100000 in
theorem m_Pa_peek (l : Launch) : zz_M zz_CL l y_Pa_peek (Cond.code y_Pa_peek c_Pa_peek 1 (some .int) :: zz_big) (zz_rm 2 41 1 6) (1, false, 0, 0, pt_Pa_peek) := by
  refine zz_M_of (HOST := "CrewRules") (L := [(0, 92, (2, false, 0, 0, pt_Ta_byteAt))]) (sw := sw_Pa_peek) (pg := pg_Pa_peek) (th := th_Pa_peek) (ini := false) (by decide +kernel) zz_static (fun h => nomatch h) (by decide) (by decide) ok_Pa_peek (zz_cons (zz_ev_V (m_Ta_byteAt l) yw_Ta_byteAt yv_Ta_byteAt lk_Pa_92 ⟨rfl, rfl, by decide, by decide⟩ (ci := 1) rfl recv_Ta_byteAt) zz_nil) (fun pc E h => (nomatch h)) (zz_VC1 80 0 [true] rfl ?_)
  rintro As ws k x ⟨⟨⟨tb, tl⟩, pa, ⟨rk, mr, fr, bf, un⟩, ⟨kd, sz, mb, co⟩, ⟨wh, hd, gs⟩, bk, sp, fl, wr⟩, R, n, a, h1, h2, hn, ha, rfl, rfl, hk⟩
  dsimp only at h1 h2 hk
  subst h1; subst h2
  refine ⟨Nat.le_of_ble_eq_true rfl, fun z ls st ws nc ns => ∃ (q : Nat), q ≤ n ∧ z = n - q ∧ sk tb n q = sk tb n a ∧ ls = [some (.ref 3)] ∧ st = [] ∧ ws = gC ((tb, (nI n)), (nI q), (rk, mr, fr, bf, un), (kd, sz, mb, co), (wh, hd, gs), bk, sp, fl, wr) ++ R ∧ nc = 0 ∧ ns = 0, ?_, ?_⟩
  · rintro z ls st ws nc ns ⟨q, hq, rfl, hs, rfl, rfl, rfl, rfl, rfl⟩
    refine And.intro (fun (c1 : nI n ≤ nI q) => (And.intro (And.intro rfl (And.intro rfl (And.intro rfl (And.intro (by decide) (by decide))))) ?_)) (fun (c1 : ¬ nI n ≤ nI q) => (And.intro (And.intro rfl (And.intro rfl (And.intro rfl (And.intro (by decide) (by decide))))) ?_))
    · have : n ≤ q := (nI_leI (by omega) (by omega)).mp c1
      rw [← hs, sk_end this] at hk
      rw [← tA_nI hn (by omega)] at hk
      exact Exists.intro ((tb, (nI n)), (nI q), (rk, mr, fr, bf, un), (kd, sz, mb, co), (wh, hd, gs), bk, sp, fl, wr) (Exists.intro R (Exists.intro n (Exists.intro (nI q) (And.intro rfl (And.intro hn (And.intro rfl (And.intro rfl (zz_e0 hk))))))))
    · have hq2 : q < n := Nat.lt_of_not_le (fun z : n ≤ q => c1 (nI_le z (by omega)))
      refine Exists.intro ((tb, (nI n)), (nI q), (rk, mr, fr, bf, un), (kd, sz, mb, co), (wh, hd, gs), bk, sp, fl, wr) (Exists.intro R (Exists.intro n (Exists.intro (nI q) (And.intro rfl (And.intro hn (And.intro rfl (And.intro rfl (?_))))))))
      rw [tA_nI hn (by omega)]
      refine And.intro (fun (c2 : ¬ bt tb n q = 32) => (And.intro (And.intro rfl (And.intro rfl (And.intro rfl (And.intro (by decide) (by decide))))) ?_)) (fun (c2 : bt tb n q = 32) => ?_)
      · have e : bt tb n q = tb q := if_pos hq2
        rw [e] at c2
        rw [← hs, sk_step hq2, if_neg c2] at hk
        rw [← tA_nI hn (by omega)] at hk
        exact Exists.intro ((tb, (nI n)), (nI q), (rk, mr, fr, bf, un), (kd, sz, mb, co), (wh, hd, gs), bk, sp, fl, wr) (Exists.intro R (Exists.intro n (Exists.intro (nI q) (And.intro rfl (And.intro hn (And.intro rfl (And.intro rfl (zz_e0 hk))))))))
      · have e : bt tb n q = tb q := if_pos hq2
        rw [e] at c2
        refine Exists.intro (n - (q + 1)) (And.intro (by show n - (q + 1) < n - q; omega) ⟨q + 1, hq2, rfl, ?_, rfl, rfl, by rw [← nI_1 q]; rfl, rfl, rfl⟩)
        rw [← hs, sk_step hq2, if_pos c2]
  · exact Exists.intro (n - a) (And.intro trivial ⟨a, ha, rfl, rfl, rfl, rfl, rfl, rfl, rfl⟩)
theorem recv_Pa_peek : ∀ As ws k x, pt_Pa_peek As ws k x → ∃ q As' fs, As = .ref q :: As' ∧ ws[q]? = some (.inr (2, fs)) := by
  rintro As ws k x ⟨s, R, n, a, h1, h2, hn, ha, rfl, rfl, hk⟩
  exact ⟨_, _, _, rfl, rfl⟩
/-- is the sign c next: and where the reader is then -/
def tk (tb : qA) (n a : Nat) (c : Int32) : Bool × Nat := if bt tb n (sk tb n a) = c then (true, sk tb n a + 1) else (false, sk tb n a)
theorem bt_lt {tb : qA} {n i : Nat} {c : Int32} (hc : ¬ c = -1) (h : bt tb n i = c) : i < n := by
  unfold bt at h
  by_cases q : i < n
  · exact q
  · rw [if_neg q] at h
    exact absurd h.symm hc
theorem tk_le {tb : qA} {n a : Nat} {c : Int32} (hc : ¬ c = -1) (h : a ≤ n) : a ≤ (tk tb n a c).2 ∧ (tk tb n a c).2 ≤ n ∧ ((tk tb n a c).1 = true → a < (tk tb n a c).2) := by
  have hb := sk_b (tb := tb) h
  unfold tk
  by_cases q : bt tb n (sk tb n a) = c
  · rw [if_pos q]
    have := bt_lt hc q
    dsimp only
    omega
  · rw [if_neg q]
    exact ⟨hb.1, hb.2, fun z => by cases z⟩
def pt_Pa_take : zz_PT := fun As ws k _ => ∃ (s : qC) (R : List va_E) (n a : Nat) (c : Int32), s.1.2 = nI n ∧ s.2.1 = nI a ∧ n ≤ 300 ∧ a ≤ n ∧ As = [.ref 3, .int c] ∧ ws = gC s ++ R ∧ k (some (.int (zb (tk s.1.1 n a c).1))) (gC (s.1, nI (tk s.1.1 n a c).2, s.2.2) ++ R)
set_option maxHeartbeats 4000000 in
set_option maxRecDepth 100000 in
theorem m_Pa_take (l : Launch) : zz_M zz_CL l y_Pa_take (Cond.code y_Pa_take c_Pa_take 2 (some .boolean) :: zz_big) (zz_rm 3 61 1 6) (2, false, 0, 0, pt_Pa_take) := by
  refine zz_M_of (HOST := "CrewRules") (L := [(0, 26, (1, false, 0, 0, pt_Pa_peek))]) (sw := sw_Pa_take) (pg := pg_Pa_take) (th := th_Pa_take) (ini := false) (by decide +kernel) zz_static (fun h => nomatch h) (by decide) (by decide) ok_Pa_take (zz_cons (zz_ev_V (m_Pa_peek l) yw_Pa_peek yv_Pa_peek lk_Pa_26 ⟨rfl, rfl, by decide, by decide⟩ (ci := 2) rfl recv_Pa_peek) zz_nil) (fun pc E h => (nomatch h)) (zz_VC0 40 ?_)
  rintro As ws k x ⟨⟨⟨tb, tl⟩, pa, ⟨rk, mr, fr, bf, un⟩, ⟨kd, sz, mb, co⟩, ⟨wh, hd, gs⟩, bk, sp, fl, wr⟩, R, n, a, c, h1, h2, hn, ha, rfl, rfl, hk⟩
  dsimp only at h1 h2 hk
  subst h1; subst h2
  refine ⟨Nat.le_of_ble_eq_true rfl, (And.intro (And.intro rfl (And.intro rfl (And.intro rfl (And.intro (by decide) (by decide))))) ?_)⟩
  refine Exists.intro ((tb, (nI n)), (nI a), (rk, mr, fr, bf, un), (kd, sz, mb, co), (wh, hd, gs), bk, sp, fl, wr) (Exists.intro R (Exists.intro n (Exists.intro a (And.intro rfl (And.intro rfl (And.intro hn (And.intro ha (And.intro rfl (And.intro rfl (?_))))))))))
  unfold tk at hk
  refine And.intro (fun (c1 : bt tb n (sk tb n a) = c) => ?_) (fun (c1 : ¬ bt tb n (sk tb n a) = c) => ?_)
  · rw [if_pos c1] at hk
    dsimp only at hk
    rw [← nI_1] at hk
    exact zz_eb (b := true) hk
  · rw [if_neg c1] at hk
    exact zz_eb (b := false) hk
theorem recv_Pa_take : ∀ As ws k x, pt_Pa_take As ws k x → ∃ q As' fs, As = .ref q :: As' ∧ ws[q]? = some (.inr (2, fs)) := by
  rintro As ws k x ⟨s, R, n, a, c, h1, h2, hn, ha, rfl, rfl, hk⟩
  exact ⟨_, _, _, rfl, rfl⟩
/-- the digit at place i -/
def dv (tb : qA) (n i : Nat) : Option Nat := if i < n ∧ 48 ≤ tb i ∧ tb i ≤ 57 then some (tb i - 48).toNatClampNeg else none
def rO (r : Option Nat) : Int32 := match r with
  | none => -1
  | some v => nI v
theorem by8_cases {tb : qA} {n i : Nat} (h : by8 tb n) : (bt tb n i = -1 ∧ ¬ i < n) ∨ ∃ b, b < 256 ∧ bt tb n i = nI b ∧ tb i = nI b ∧ i < n := by
  unfold bt
  by_cases q : i < n
  · rw [if_pos q]
    obtain ⟨b, h1, h2⟩ := h.2 i q
    exact Or.inr ⟨b, h1, h2, h2, q⟩
  · rw [if_neg q]
    exact Or.inl ⟨rfl, q⟩
theorem dv_cases {tb : qA} {n i : Nat} (h : by8 tb n) : (dv tb n i = none ∧ (bt tb n i - 48 < 0 ∨ (¬ bt tb n i - 48 < 0 ∧ 9 < bt tb n i - 48))) ∨ ∃ d, d < 10 ∧ dv tb n i = some d ∧ bt tb n i - 48 = nI d ∧ i < n ∧ tb i = nI (48 + d) := by
  rcases by8_cases (i := i) h with ⟨h1, h2⟩ | ⟨b, hb, h1, h2, h3⟩
  · refine Or.inl ⟨if_neg (fun q => h2 q.1), Or.inl ?_⟩
    rw [h1]; decide
  · unfold dv
    rw [h1, h2]
    have e48 : (48 : Int32) = nI 48 := rfl
    have e57 : (57 : Int32) = nI 57 := rfl
    by_cases q1 : 48 ≤ b
    · have es : nI b - 48 = nI (b - 48) := pk_sub (b := 48) q1
      by_cases q2 : b ≤ 57
      · refine Or.inr ⟨b - 48, by omega, ?_, es, h3, by congr 1; omega⟩
        rw [if_pos ⟨h3, nI_le (a := 48) q1 (by omega), nI_le (b := 57) q2 (by decide)⟩, es, nI_clamp (by omega)]
      · refine Or.inl ⟨if_neg (fun q => q2 ((nI_leI (b := 57) (by omega) (by decide)).mp q.2.2)), Or.inr ?_⟩
        rw [es]
        exact ⟨nI_pos (by omega), nI_lt (a := 9) (by omega) (by omega)⟩
    · refine Or.inl ⟨if_neg (fun q => q1 ((nI_leI (a := 48) (by decide) (by omega)).mp q.2.1)), Or.inl ?_⟩
      exact pk_sneg (b := 48) (by decide) (by omega)
def pt_Pa_digitAt : zz_PT := fun As ws k _ => ∃ (s : qC) (R : List va_E) (n i : Nat), s.1.2 = nI n ∧ by8 s.1.1 n ∧ i < 1000 ∧ As = [.ref 3, .int (nI i)] ∧ ws = gC s ++ R ∧ k (some (.int (rO (dv s.1.1 n i)))) ws
set_option maxHeartbeats 4000000 in
set_option maxRecDepth 100000 in
theorem m_Pa_digitAt (l : Launch) : zz_M zz_CL l y_Pa_digitAt (Cond.code y_Pa_digitAt c_Pa_digitAt 3 (some .int) :: zz_big) (zz_rm 2 41 1 6) (2, false, 0, 0, pt_Pa_digitAt) := by
  refine zz_M_of (HOST := "CrewRules") (L := [(0, 92, (2, false, 0, 0, pt_Ta_byteAt))]) (sw := sw_Pa_digitAt) (pg := pg_Pa_digitAt) (th := th_Pa_digitAt) (ini := false) (by decide +kernel) zz_static (fun h => nomatch h) (by decide) (by decide) ok_Pa_digitAt (zz_cons (zz_ev_V (m_Ta_byteAt l) yw_Ta_byteAt yv_Ta_byteAt lk_Pa_92 ⟨rfl, rfl, by decide, by decide⟩ (ci := 1) rfl recv_Ta_byteAt) zz_nil) (fun pc E h => (nomatch h)) (zz_VC0 40 ?_)
  rintro As ws k x ⟨⟨⟨tb, tl⟩, pa, ⟨rk, mr, fr, bf, un⟩, ⟨kd, sz, mb, co⟩, ⟨wh, hd, gs⟩, bk, sp, fl, wr⟩, R, n, i, h1, h8, hi, rfl, rfl, hk⟩
  dsimp only at h1 h8 hk
  subst h1
  refine ⟨Nat.le_of_ble_eq_true rfl, (And.intro (And.intro rfl (And.intro rfl (And.intro rfl (And.intro (by decide) (by decide))))) ?_)⟩
  refine Exists.intro ((tb, (nI n)), pa, (rk, mr, fr, bf, un), (kd, sz, mb, co), (wh, hd, gs), bk, sp, fl, wr) (Exists.intro R (Exists.intro n (Exists.intro (nI i) (And.intro rfl (And.intro h8.1 (And.intro rfl (And.intro rfl (?_))))))))
  rw [tA_nI h8.1 (by omega)]
  rcases dv_cases (i := i) h8 with ⟨h2, h3⟩ | ⟨d, hd2, h2, h3, -⟩
  · rw [h2] at hk
    refine And.intro (fun _ => ?_) (fun (c1 : ¬ bt tb n i - 48 < 0) => ?_)
    · exact zz_e0 hk
    · rcases h3 with h3 | ⟨-, h3⟩
      · exact absurd h3 c1
      · exact And.intro (fun _ => zz_e0 hk) (fun (c2 : ¬ 9 < bt tb n i - 48) => absurd h3 c2)
  · rw [h2] at hk
    have hk2 : k (some (.int (bt tb n i - 48))) (gC ((tb, (nI n)), pa, (rk, mr, fr, bf, un), (kd, sz, mb, co), (wh, hd, gs), bk, sp, fl, wr) ++ R) := by rw [h3]; exact hk
    refine And.intro (fun (c1 : bt tb n i - 48 < 0) => absurd c1 (by rw [h3]; exact nI_pos (by omega))) (fun _ => ?_)
    exact And.intro (fun (c2 : 9 < bt tb n i - 48) => absurd c2 (by rw [h3]; exact nI_nlt (a := 9) (b := d) (by omega) (by omega))) (fun _ => zz_e0 hk2)
theorem recv_Pa_digitAt : ∀ As ws k x, pt_Pa_digitAt As ws k x → ∃ q As' fs, As = .ref q :: As' ∧ ws[q]? = some (.inr (2, fs)) := by
  rintro As ws k x ⟨s, R, n, i, h1, h8, hi, rfl, rfl, hk⟩
  exact ⟨_, _, _, rfl, rfl⟩
/-- a skill's letter -/
def tsk (tb : qA) (n a : Nat) : Option Nat × Nat := if sk tb n a < n ∧ 97 ≤ tb (sk tb n a) ∧ tb (sk tb n a) ≤ 106 then (some (tb (sk tb n a) - 97).toNatClampNeg, sk tb n a + 1) else (none, sk tb n a)
theorem tsk_cases {tb : qA} {n a : Nat} (h : by8 tb n) (ha : a ≤ n) : (tsk tb n a = (none, sk tb n a) ∧ (bt tb n (sk tb n a) - 97 < 0 ∨ (¬ bt tb n (sk tb n a) - 97 < 0 ∧ ¬ bt tb n (sk tb n a) - 97 < 10))) ∨ ∃ d, d < 10 ∧ tsk tb n a = (some d, sk tb n a + 1) ∧ bt tb n (sk tb n a) - 97 = nI d ∧ sk tb n a < n ∧ tb (sk tb n a) = nI (97 + d) := by
  rcases by8_cases (i := sk tb n a) h with ⟨h1, h2⟩ | ⟨b, hb, h1, h2, h3⟩
  · refine Or.inl ⟨if_neg (fun q => h2 q.1), Or.inl ?_⟩
    rw [h1]; decide
  · unfold tsk
    rw [h1, h2]
    by_cases q1 : 97 ≤ b
    · have es : nI b - 97 = nI (b - 97) := pk_sub (b := 97) q1
      by_cases q2 : b ≤ 106
      · refine Or.inr ⟨b - 97, by omega, ?_, es, h3, by congr 1; omega⟩
        rw [if_pos ⟨h3, nI_le (a := 97) q1 (by omega), nI_le (b := 106) q2 (by decide)⟩, es, nI_clamp (by omega)]
      · refine Or.inl ⟨if_neg (fun q => q2 ((nI_leI (b := 106) (by omega) (by decide)).mp q.2.2)), Or.inr ?_⟩
        rw [es]
        exact ⟨nI_pos (by omega), nI_nlt (b := 10) (by omega) (by omega)⟩
    · refine Or.inl ⟨if_neg (fun q => q1 ((nI_leI (a := 97) (by decide) (by omega)).mp q.2.1)), Or.inl ?_⟩
      exact pk_sneg (b := 97) (by decide) (by omega)
def pt_Pa_takeSkill : zz_PT := fun As ws k _ => ∃ (s : qC) (R : List va_E) (n a : Nat), s.1.2 = nI n ∧ s.2.1 = nI a ∧ by8 s.1.1 n ∧ a ≤ n ∧ As = [.ref 3] ∧ ws = gC s ++ R ∧ k (some (.int (rO (tsk s.1.1 n a).1))) (gC (s.1, nI (tsk s.1.1 n a).2, s.2.2) ++ R)
set_option maxHeartbeats 4000000 in
set_option maxRecDepth 100000 in
theorem m_Pa_takeSkill (l : Launch) : zz_M zz_CL l y_Pa_takeSkill (Cond.code y_Pa_takeSkill c_Pa_takeSkill 2 (some .int) :: zz_big) (zz_rm 3 61 1 6) (1, false, 0, 0, pt_Pa_takeSkill) := by
  refine zz_M_of (HOST := "CrewRules") (L := [(0, 26, (1, false, 0, 0, pt_Pa_peek))]) (sw := sw_Pa_takeSkill) (pg := pg_Pa_takeSkill) (th := th_Pa_takeSkill) (ini := false) (by decide +kernel) zz_static (fun h => nomatch h) (by decide) (by decide) ok_Pa_takeSkill (zz_cons (zz_ev_V (m_Pa_peek l) yw_Pa_peek yv_Pa_peek lk_Pa_26 ⟨rfl, rfl, by decide, by decide⟩ (ci := 2) rfl recv_Pa_peek) zz_nil) (fun pc E h => (nomatch h)) (zz_VC0 60 ?_)
  rintro As ws k x ⟨⟨⟨tb, tl⟩, pa, ⟨rk, mr, fr, bf, un⟩, ⟨kd, sz, mb, co⟩, ⟨wh, hd, gs⟩, bk, sp, fl, wr⟩, R, n, a, h1, h2, h8, ha, rfl, rfl, hk⟩
  dsimp only at h1 h2 h8 hk
  subst h1; subst h2
  refine ⟨Nat.le_of_ble_eq_true rfl, (And.intro (And.intro rfl (And.intro rfl (And.intro rfl (And.intro (by decide) (by decide))))) ?_)⟩
  refine Exists.intro ((tb, (nI n)), (nI a), (rk, mr, fr, bf, un), (kd, sz, mb, co), (wh, hd, gs), bk, sp, fl, wr) (Exists.intro R (Exists.intro n (Exists.intro a (And.intro rfl (And.intro rfl (And.intro h8.1 (And.intro ha (And.intro rfl (And.intro rfl (?_))))))))))
  rcases tsk_cases h8 ha with ⟨h2, h3⟩ | ⟨d, hd2, h2, h3, -⟩
  · rw [h2] at hk
    refine And.intro (fun _ => zz_e0 hk) (fun (c1 : ¬ bt tb n (sk tb n a) - 97 < 0) => ?_)
    rcases h3 with h3 | ⟨-, h3⟩
    · exact absurd h3 c1
    · exact And.intro (fun (c2 : bt tb n (sk tb n a) - 97 < 10) => absurd c2 h3) (fun _ => zz_e0 hk)
  · rw [h2] at hk
    dsimp only at hk
    rw [← nI_1, show rO (some d) = bt tb n (sk tb n a) - 97 from h3.symm] at hk
    refine And.intro (fun (c1 : bt tb n (sk tb n a) - 97 < 0) => absurd c1 (by rw [h3]; exact nI_pos (by omega))) (fun _ => ?_)
    exact And.intro (fun _ => zz_e0 hk) (fun (c2 : ¬ bt tb n (sk tb n a) - 97 < 10) => absurd (by rw [h3]; exact nI_lt (b := 10) hd2 (by decide)) c2)
theorem recv_Pa_takeSkill : ∀ As ws k x, pt_Pa_takeSkill As ws k x → ∃ q As' fs, As = .ref q :: As' ∧ ws[q]? = some (.inr (2, fs)) := by
  rintro As ws k x ⟨s, R, n, a, h1, h2, h8, ha, rfl, rfl, hk⟩
  exact ⟨_, _, _, rfl, rfl⟩
