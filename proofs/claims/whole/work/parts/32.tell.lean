/-! ===== CrewRules ===== -/
/-- v lies in lo .. hi -/
def iR (lo hi v : Int32) : Bool := decide (lo ≤ v) && decide (v ≤ hi)
theorem iR_t {lo hi v : Int32} (h1 : lo ≤ v) (h2 : v ≤ hi) : iR lo hi v = true := by
  unfold iR; rw [decide_eq_true h1, decide_eq_true h2]; rfl
theorem iR_g {lo hi v : Int32} (h : iR lo hi v = true) : lo ≤ v ∧ v ≤ hi := by
  unfold iR at h
  rw [Bool.and_eq_true] at h
  exact ⟨of_decide_eq_true h.1, of_decide_eq_true h.2⟩
theorem iR_lo {lo hi v : Int32} (h : v < lo) : iR lo hi v = false := by
  cases e : iR lo hi v with
  | false => rfl
  | true => have := iR_g e; rw [zn_le] at this; rw [zn_lt] at h; omega
theorem iR_hi {lo hi v : Int32} (h : ¬ v ≤ hi) : iR lo hi v = false := by
  cases e : iR lo hi v with
  | false => rfl
  | true => exact absurd (iR_g e).2 h
theorem zn_nl {x y : Int32} (h : ¬ x < y) : y ≤ x := by rw [zn_le]; rw [zn_lt] at h; omega
theorem iR_n {hi : Nat} {v : Int32} (hh : hi < 2 ^ 31) (h : iR 0 (nI hi) v = true) : ∃ p, p ≤ hi ∧ v = nI p := by
  have g := iR_g h
  rw [zn_le, zn_le, nI_toInt hh] at g
  have e : (0 : Int32).toInt = 0 := by decide
  rw [e] at g
  refine ⟨v.toInt.toNat, by omega, ?_⟩
  rw [zn_eq, nI_toInt (by omega)]
  omega
/-- what came of a call: all well, or the first, the second, the third throw -/
def zo (c : Nat) (a1 a2 a3 a0 : Prop) : Prop := match c with
  | 0 => a0
  | 1 => a1
  | 2 => a2
  | _ => a3
theorem zz_et {P : Prop} (h : P) : (0 + 1 ≤ 1 ∧ 0 + 6 ≤ 6) ∧ ((false = false ∧ 0 + 1 ≤ 0 + 1 ∧ 0 + 6 ≤ 0 + 6) ∧ P) := ⟨⟨Nat.le_refl _, Nat.le_refl _⟩, ⟨rfl, Nat.le_refl _, Nat.le_refl _⟩, h⟩
theorem zz_ex {P : Prop} (h : P) : (false = false ∧ 0 + (0 + 1) ≤ 0 + 1 ∧ 0 + (0 + 6) ≤ 0 + 6) ∧ P := ⟨⟨rfl, Nat.le_refl _, Nat.le_refl _⟩, h⟩
def pt_Cr_requirePerson : zz_PT := fun As ws k x => ∃ v : Int32, As = [.int v] ∧ (iR 0 49 v = true → k none ws) ∧ (iR 0 49 v = false → x "java/lang/IllegalArgumentException" ws)
set_option maxHeartbeats 4000000 in
set_option maxRecDepth 100000 in
theorem m_Cr_requirePerson (l : Launch) (hl : l.stackTraces = false) : zz_M zz_CL l y_Cr_requirePerson (Cond.code y_Cr_requirePerson c_Cr_requirePerson 1 none :: zz_big) (zz_rm 6 82 1 6) (1, false, 0, 0, pt_Cr_requirePerson) := by
  refine zz_M_of (HOST := "CrewRules") (L := []) (sw := sw_Cr_requirePerson) (pg := pg_Cr_requirePerson) (th := th_Cr_requirePerson) (ini := false) (by decide +kernel) zz_static (fun h => nomatch h) (by decide) (by decide) ok_Cr_requirePerson zz_nil (tk_Cr_requirePerson hl (by decide) (by decide)) (zz_VC0 30 ?_)
  rintro As ws k x ⟨v, rfl, h1, h2⟩
  refine ⟨Nat.le_of_ble_eq_true rfl, ?_⟩
  refine And.intro (fun (c : v < 0) => zz_et (h2 (iR_lo c))) (fun (c : ¬ v < 0) => ?_)
  have e : (50 : Int32).toInt = 50 := by decide
  have e2 : (49 : Int32).toInt = 49 := by decide
  refine And.intro (fun (d : v < 50) => zz_ev0 (h1 (iR_t (zn_nl c) (by rw [zn_lt] at d; rw [zn_le]; omega)))) (fun (d : ¬ v < 50) => zz_et (h2 (iR_hi (fun z => d (by rw [zn_le] at z; rw [zn_lt]; omega)))))
def pt_Cr_requireCrew : zz_PT := fun As ws k x => ∃ v : Int32, As = [.int v] ∧ (iR 0 19 v = true → k none ws) ∧ (iR 0 19 v = false → x "java/lang/IllegalArgumentException" ws)
set_option maxHeartbeats 4000000 in
set_option maxRecDepth 100000 in
theorem m_Cr_requireCrew (l : Launch) (hl : l.stackTraces = false) : zz_M zz_CL l y_Cr_requireCrew (Cond.code y_Cr_requireCrew c_Cr_requireCrew 1 none :: zz_big) (zz_rm 6 82 1 6) (1, false, 0, 0, pt_Cr_requireCrew) := by
  refine zz_M_of (HOST := "CrewRules") (L := []) (sw := sw_Cr_requireCrew) (pg := pg_Cr_requireCrew) (th := th_Cr_requireCrew) (ini := false) (by decide +kernel) zz_static (fun h => nomatch h) (by decide) (by decide) ok_Cr_requireCrew zz_nil (tk_Cr_requireCrew hl (by decide) (by decide)) (zz_VC0 30 ?_)
  rintro As ws k x ⟨v, rfl, h1, h2⟩
  refine ⟨Nat.le_of_ble_eq_true rfl, ?_⟩
  refine And.intro (fun (c : v < 0) => zz_et (h2 (iR_lo c))) (fun (c : ¬ v < 0) => ?_)
  have e : (20 : Int32).toInt = 20 := by decide
  have e2 : (19 : Int32).toInt = 19 := by decide
  refine And.intro (fun (d : v < 20) => zz_ev0 (h1 (iR_t (zn_nl c) (by rw [zn_lt] at d; rw [zn_le]; omega)))) (fun (d : ¬ v < 20) => zz_et (h2 (iR_hi (fun z => d (by rw [zn_le] at z; rw [zn_lt]; omega)))))
def pt_Cr_requireSkill : zz_PT := fun As ws k x => ∃ v : Int32, As = [.int v] ∧ (iR 0 9 v = true → k none ws) ∧ (iR 0 9 v = false → x "java/lang/IllegalArgumentException" ws)
set_option maxHeartbeats 4000000 in
set_option maxRecDepth 100000 in
theorem m_Cr_requireSkill (l : Launch) (hl : l.stackTraces = false) : zz_M zz_CL l y_Cr_requireSkill (Cond.code y_Cr_requireSkill c_Cr_requireSkill 1 none :: zz_big) (zz_rm 6 82 1 6) (1, false, 0, 0, pt_Cr_requireSkill) := by
  refine zz_M_of (HOST := "CrewRules") (L := []) (sw := sw_Cr_requireSkill) (pg := pg_Cr_requireSkill) (th := th_Cr_requireSkill) (ini := false) (by decide +kernel) zz_static (fun h => nomatch h) (by decide) (by decide) ok_Cr_requireSkill zz_nil (tk_Cr_requireSkill hl (by decide) (by decide)) (zz_VC0 30 ?_)
  rintro As ws k x ⟨v, rfl, h1, h2⟩
  refine ⟨Nat.le_of_ble_eq_true rfl, ?_⟩
  refine And.intro (fun (c : v < 0) => zz_et (h2 (iR_lo c))) (fun (c : ¬ v < 0) => ?_)
  have e : (10 : Int32).toInt = 10 := by decide
  have e2 : (9 : Int32).toInt = 9 := by decide
  refine And.intro (fun (d : v < 10) => zz_ev0 (h1 (iR_t (zn_nl c) (by rw [zn_lt] at d; rw [zn_le]; omega)))) (fun (d : ¬ v < 10) => zz_et (h2 (iR_hi (fun z => d (by rw [zn_le] at z; rw [zn_lt]; omega)))))
def pt_Cr_requireRank : zz_PT := fun As ws k x => ∃ v : Int32, As = [.int v] ∧ (iR 0 9 v = true → k none ws) ∧ (iR 0 9 v = false → x "java/lang/IndexOutOfBoundsException" ws)
set_option maxHeartbeats 4000000 in
set_option maxRecDepth 100000 in
theorem m_Cr_requireRank (l : Launch) (hl : l.stackTraces = false) : zz_M zz_CL l y_Cr_requireRank (Cond.code y_Cr_requireRank c_Cr_requireRank 1 none :: zz_big) (zz_rm 6 82 1 6) (1, false, 0, 0, pt_Cr_requireRank) := by
  refine zz_M_of (HOST := "CrewRules") (L := []) (sw := sw_Cr_requireRank) (pg := pg_Cr_requireRank) (th := th_Cr_requireRank) (ini := false) (by decide +kernel) zz_static (fun h => nomatch h) (by decide) (by decide) ok_Cr_requireRank zz_nil (tk_Cr_requireRank hl (by decide) (by decide)) (zz_VC0 30 ?_)
  rintro As ws k x ⟨v, rfl, h1, h2⟩
  refine ⟨Nat.le_of_ble_eq_true rfl, ?_⟩
  refine And.intro (fun (c : v < 0) => zz_et (h2 (iR_lo c))) (fun (c : ¬ v < 0) => ?_)
  refine And.intro (fun (d : v ≤ 9) => zz_ev0 (h1 (iR_t (zn_nl c) d))) (fun (d : ¬ v ≤ 9) => zz_et (h2 (iR_hi d)))
def pt_Cr_requireHour : zz_PT := fun As ws k x => ∃ v : Int32, As = [.int v] ∧ (iR 0 99999 v = true → k none ws) ∧ (iR 0 99999 v = false → x "java/lang/IndexOutOfBoundsException" ws)
set_option maxHeartbeats 4000000 in
set_option maxRecDepth 100000 in
theorem m_Cr_requireHour (l : Launch) (hl : l.stackTraces = false) : zz_M zz_CL l y_Cr_requireHour (Cond.code y_Cr_requireHour c_Cr_requireHour 1 none :: zz_big) (zz_rm 6 82 1 6) (1, false, 0, 0, pt_Cr_requireHour) := by
  refine zz_M_of (HOST := "CrewRules") (L := []) (sw := sw_Cr_requireHour) (pg := pg_Cr_requireHour) (th := th_Cr_requireHour) (ini := false) (by decide +kernel) zz_static (fun h => nomatch h) (by decide) (by decide) ok_Cr_requireHour zz_nil (tk_Cr_requireHour hl (by decide) (by decide)) (zz_VC0 30 ?_)
  rintro As ws k x ⟨v, rfl, h1, h2⟩
  refine ⟨Nat.le_of_ble_eq_true rfl, ?_⟩
  refine And.intro (fun (c : v < 0) => zz_et (h2 (iR_lo c))) (fun (c : ¬ v < 0) => ?_)
  refine And.intro (fun (d : v ≤ 99999) => zz_ev0 (h1 (iR_t (zn_nl c) d))) (fun (d : ¬ v ≤ 99999) => zz_et (h2 (iR_hi d)))
def pt_Cr_place : zz_PT := fun As ws k _ => ∃ (s : qC) (R : List va_E), As = [.ref 0] ∧ ws = gC s ++ R ∧ k (some (.int s.2.2.2.2.2.2.2.2)) ws
set_option maxHeartbeats 4000000 in
set_option maxRecDepth 100000 in
theorem m_Cr_place (l : Launch) : zz_M zz_CL l y_Cr_place (Cond.code y_Cr_place c_Cr_place 1 (some .int) :: zz_big) (zz_rm 1 20 1 6) (1, false, 0, 0, pt_Cr_place) := by
  refine zz_M_of (HOST := "CrewRules") (L := []) (sw := sw_Cr_place) (pg := pg_Cr_place) (th := th_Cr_place) (ini := false) (by decide +kernel) zz_static (fun h => nomatch h) (by decide) (by decide) ok_Cr_place zz_nil (fun pc E h => (nomatch h)) (zz_VC0 20 ?_)
  rintro As ws k x ⟨⟨⟨tb, tl⟩, pa, ⟨rk, mr, fr, bf, un⟩, ⟨kd, sz, mb, co⟩, ⟨wh, hd, gs⟩, bk, sp, fl, wr⟩, R, rfl, rfl, hk⟩
  exact ⟨Nat.le_of_ble_eq_true rfl, zz_e0 hk⟩
theorem recv_Cr_place : ∀ As ws k x, pt_Cr_place As ws k x → ∃ q As' fs, As = .ref q :: As' ∧ ws[q]? = some (.inr (0, fs)) := by
  rintro As ws k x ⟨s, R, rfl, rfl, hk⟩
  exact ⟨_, _, _, rfl, rfl⟩
def oPerson (p r m : Int32) : Nat := bif !iR 0 49 p then 1 else bif !iR 0 9 r || !iR 0 3 m then 2 else 0
def uPerson (s : qC) (p r m : Int32) : qC := (s.1, s.2.1, (upd s.2.2.1.1 p.toNatClampNeg r, upd s.2.2.1.2.1 p.toNatClampNeg m, s.2.2.1.2.2), s.2.2.2)
def pt_Cr_person : zz_PT := fun As ws k x => ∃ (s : qC) (R : List va_E) (p r m : Int32), As = [.ref 0, .int p, .int r, .int m] ∧ ws = gC s ++ R ∧ zo (oPerson p r m) (x "java/lang/IllegalArgumentException" ws) (x "java/lang/IndexOutOfBoundsException" ws) False (k none (gC (uPerson s p r m) ++ R))
set_option maxHeartbeats 4000000 in
set_option maxRecDepth 100000 in
theorem m_Cr_person (l : Launch) (hl : l.stackTraces = false) : zz_M zz_CL l y_Cr_person (Cond.code y_Cr_person c_Cr_person 4 none :: zz_big) (zz_rm 7 102 1 6) (4, false, 0, 0, pt_Cr_person) := by
  refine zz_M_of (HOST := "CrewRules") (L := [(1, 96, (1, false, 0, 0, pt_Cr_requirePerson)), (1, 99, (1, false, 0, 0, pt_Cr_requireRank))]) (sw := sw_Cr_person) (pg := pg_Cr_person) (th := th_Cr_person) (ini := false) (by decide +kernel) zz_static (fun h => nomatch h) (by decide) (by decide) ok_Cr_person (zz_cons (zz_ev_S (m_Cr_requirePerson l hl) yw_Cr_requirePerson ys_Cr_requirePerson lk_Cr_96 ⟨rfl, rfl, by decide, by decide⟩) (zz_cons (zz_ev_S (m_Cr_requireRank l hl) yw_Cr_requireRank ys_Cr_requireRank lk_Cr_99 ⟨rfl, rfl, by decide, by decide⟩) zz_nil)) (tk_Cr_person hl (by decide) (by decide)) (zz_VC0 60 ?_)
  rintro As ws k x ⟨⟨⟨tb, tl⟩, pa, ⟨rk, mr, fr, bf, un⟩, ⟨kd, sz, mb, co⟩, ⟨wh, hd, gs⟩, bk, sp, fl, wr⟩, R, p, r, m, rfl, rfl, hk⟩
  unfold oPerson at hk
  refine ⟨Nat.le_of_ble_eq_true rfl, ?_⟩
  refine (And.intro (And.intro rfl (And.intro rfl (And.intro rfl (And.intro (by decide) (by decide))))) ?_)
  refine Exists.intro p (And.intro rfl (And.intro (fun cz => ?_) (fun cz => ?_)))
  rotate_left
  · rw [cz] at hk; exact zz_ex hk
  rw [cz] at hk
  obtain ⟨q, hq, rfl⟩ := iR_n (hi := 49) (by decide) cz
  refine (And.intro (And.intro rfl (And.intro rfl (And.intro rfl (And.intro (by decide) (by decide))))) ?_)
  refine Exists.intro r (And.intro rfl (And.intro (fun cz => ?_) (fun cz => ?_)))
  rotate_left
  · rw [cz] at hk; exact zz_ex hk
  rw [cz] at hk
  refine And.intro (fun (d : m < 0) => ?_) (fun (d : ¬ m < 0) => ?_)
  · rw [iR_lo d] at hk
    exact zz_et hk
  refine And.intro (fun (e : m ≤ 3) => ?_) (fun (e : ¬ m ≤ 3) => ?_)
  · rw [iR_t (zn_nl d) e] at hk
    exact And.intro (zn_in (by omega) (by decide)) (And.intro (zn_in (by omega) (by decide)) (zz_ev0 hk))
  · rw [iR_hi e] at hk
    exact zz_et hk
theorem recv_Cr_person : ∀ As ws k x, pt_Cr_person As ws k x → ∃ q As' fs, As = .ref q :: As' ∧ ws[q]? = some (.inr (0, fs)) := by
  rintro As ws k x ⟨s, R, p, r, m, rfl, rfl, hk⟩
  exact ⟨_, _, _, rfl, rfl⟩
def oSkill (p s h : Int32) : Nat := bif !iR 0 49 p || !iR 0 9 s then 1 else bif !iR 0 99999 h then 2 else 0
def uSkill (s : qC) (p k h : Int32) : qC := (s.1, s.2.1, (s.2.2.1.1, s.2.2.1.2.1, s.2.2.1.2.2.1, s.2.2.1.2.2.2.1, upd s.2.2.1.2.2.2.2 (10 * p.toNatClampNeg + k.toNatClampNeg) h), s.2.2.2)
def pt_Cr_skill : zz_PT := fun As ws k x => ∃ (s : qC) (R : List va_E) (p j h : Int32), As = [.ref 0, .int p, .int j, .int h] ∧ ws = gC s ++ R ∧ zo (oSkill p j h) (x "java/lang/IllegalArgumentException" ws) (x "java/lang/IndexOutOfBoundsException" ws) False (k none (gC (uSkill s p j h) ++ R))
set_option maxHeartbeats 4000000 in
set_option maxRecDepth 100000 in
theorem m_Cr_skill (l : Launch) (hl : l.stackTraces = false) : zz_M zz_CL l y_Cr_skill (Cond.code y_Cr_skill c_Cr_skill 4 none :: zz_big) (zz_rm 7 102 1 6) (4, false, 0, 0, pt_Cr_skill) := by
  refine zz_M_of (HOST := "CrewRules") (L := [(1, 96, (1, false, 0, 0, pt_Cr_requirePerson)), (1, 111, (1, false, 0, 0, pt_Cr_requireSkill)), (1, 114, (1, false, 0, 0, pt_Cr_requireHour))]) (sw := sw_Cr_skill) (pg := pg_Cr_skill) (th := th_Cr_skill) (ini := false) (by decide +kernel) zz_static (fun h => nomatch h) (by decide) (by decide) ok_Cr_skill (zz_cons (zz_ev_S (m_Cr_requirePerson l hl) yw_Cr_requirePerson ys_Cr_requirePerson lk_Cr_96 ⟨rfl, rfl, by decide, by decide⟩) (zz_cons (zz_ev_S (m_Cr_requireSkill l hl) yw_Cr_requireSkill ys_Cr_requireSkill lk_Cr_111 ⟨rfl, rfl, by decide, by decide⟩) (zz_cons (zz_ev_S (m_Cr_requireHour l hl) yw_Cr_requireHour ys_Cr_requireHour lk_Cr_114 ⟨rfl, rfl, by decide, by decide⟩) zz_nil))) (fun pc E h => (nomatch h)) (zz_VC0 60 ?_)
  rintro As ws k x ⟨⟨⟨tb, tl⟩, pa, ⟨rk, mr, fr, bf, un⟩, ⟨kd, sz, mb, co⟩, ⟨wh, hd, gs⟩, bk, sp, fl, wr⟩, R, p, j, h, rfl, rfl, hk⟩
  unfold oSkill at hk
  refine ⟨Nat.le_of_ble_eq_true rfl, ?_⟩
  refine (And.intro (And.intro rfl (And.intro rfl (And.intro rfl (And.intro (by decide) (by decide))))) ?_)
  refine Exists.intro p (And.intro rfl (And.intro (fun cz => ?_) (fun cz => ?_)))
  rotate_left
  · rw [cz] at hk; exact zz_ex hk
  rw [cz] at hk
  obtain ⟨q, hq, rfl⟩ := iR_n (hi := 49) (by decide) cz
  refine (And.intro (And.intro rfl (And.intro rfl (And.intro rfl (And.intro (by decide) (by decide))))) ?_)
  refine Exists.intro j (And.intro rfl (And.intro (fun cz => ?_) (fun cz => ?_)))
  rotate_left
  · rw [cz] at hk; exact zz_ex hk
  rw [cz] at hk
  obtain ⟨i, hi, rfl⟩ := iR_n (hi := 9) (by decide) cz
  refine (And.intro (And.intro rfl (And.intro rfl (And.intro rfl (And.intro (by decide) (by decide))))) ?_)
  refine Exists.intro h (And.intro rfl (And.intro (fun cz => ?_) (fun cz => ?_)))
  rotate_left
  · rw [cz] at hk; exact zz_ex hk
  rw [cz] at hk
  have e : nI q * 10 + nI i = nI (10 * q + i) := by
    show nI q * nI 10 + nI i = _
    rw [pk_mul, nI_add, Nat.mul_comm]
  refine And.intro (by rw [e]; exact zn_in (by omega) (by decide)) (zz_ev0 ?_)
  have hk : k none (gC (uSkill ((tb, tl), pa, (rk, mr, fr, bf, un), (kd, sz, mb, co), (wh, hd, gs), bk, sp, fl, wr) (nI q) (nI i) h) ++ R) := hk
  unfold uSkill at hk
  dsimp only at hk
  rw [nI_clamp (show q < 2 ^ 31 by omega), nI_clamp (show i < 2 ^ 31 by omega), ← nI_clamp (show 10 * q + i < 2 ^ 31 by omega), ← e] at hk
  exact hk
theorem recv_Cr_skill : ∀ As ws k x, pt_Cr_skill As ws k x → ∃ q As' fs, As = .ref q :: As' ∧ ws[q]? = some (.inr (0, fs)) := by
  rintro As ws k x ⟨s, R, p, j, h, rfl, rfl, hk⟩
  exact ⟨_, _, _, rfl, rfl⟩
def oDuty (p b e : Int32) : Nat := bif !iR 0 49 p then 1 else bif !iR (-1) 99999 b || (!iR (-1) 99999 e || (decide (0 ≤ b) && (decide (0 ≤ e) && decide (b < e)))) then 2 else 0
def uDuty (s : qC) (p b e : Int32) : qC := (s.1, s.2.1, (s.2.2.1.1, s.2.2.1.2.1, upd s.2.2.1.2.2.1 p.toNatClampNeg b, upd s.2.2.1.2.2.2.1 p.toNatClampNeg e, s.2.2.1.2.2.2.2), s.2.2.2)
def pt_Cr_duty : zz_PT := fun As ws k x => ∃ (s : qC) (R : List va_E) (p b e : Int32), As = [.ref 0, .int p, .int b, .int e] ∧ ws = gC s ++ R ∧ zo (oDuty p b e) (x "java/lang/IllegalArgumentException" ws) (x "java/lang/IndexOutOfBoundsException" ws) False (k none (gC (uDuty s p b e) ++ R))
theorem iR_m1 (v : Int32) : iR (-1) 99999 v = (decide (v = -1) || iR 0 99999 v) := by
  have e1 : (-1 : Int32).toInt = -1 := by decide
  have e0 : (0 : Int32).toInt = 0 := by decide
  by_cases h : v = -1
  · rw [h]; decide
  · rw [decide_eq_false h, Bool.false_or]
    unfold iR
    congr 1
    rw [decide_eq_decide, zn_le, zn_le, e1, e0]
    rw [zn_eq, e1] at h
    omega
set_option maxHeartbeats 4000000 in
set_option maxRecDepth 100000 in
theorem m_Cr_duty (l : Launch) (hl : l.stackTraces = false) : zz_M zz_CL l y_Cr_duty (Cond.code y_Cr_duty c_Cr_duty 4 none :: zz_big) (zz_rm 7 102 1 6) (4, false, 0, 0, pt_Cr_duty) := by
  refine zz_M_of (HOST := "CrewRules") (L := [(1, 96, (1, false, 0, 0, pt_Cr_requirePerson)), (1, 114, (1, false, 0, 0, pt_Cr_requireHour))]) (sw := sw_Cr_duty) (pg := pg_Cr_duty) (th := th_Cr_duty) (ini := false) (by decide +kernel) zz_static (fun h => nomatch h) (by decide) (by decide) ok_Cr_duty (zz_cons (zz_ev_S (m_Cr_requirePerson l hl) yw_Cr_requirePerson ys_Cr_requirePerson lk_Cr_96 ⟨rfl, rfl, by decide, by decide⟩) (zz_cons (zz_ev_S (m_Cr_requireHour l hl) yw_Cr_requireHour ys_Cr_requireHour lk_Cr_114 ⟨rfl, rfl, by decide, by decide⟩) zz_nil)) (tk_Cr_duty hl (by decide) (by decide)) (zz_VC0 80 ?_)
  rintro As ws k x ⟨⟨⟨tb, tl⟩, pa, ⟨rk, mr, fr, bf, un⟩, ⟨kd, sz, mb, co⟩, ⟨wh, hd, gs⟩, bk, sp, fl, wr⟩, R, p, b, e, rfl, rfl, hk⟩
  unfold oDuty at hk
  refine ⟨Nat.le_of_ble_eq_true rfl, ?_⟩
  refine (And.intro (And.intro rfl (And.intro rfl (And.intro rfl (And.intro (by decide) (by decide))))) ?_)
  refine Exists.intro p (And.intro rfl (And.intro (fun cz => ?_) (fun cz => ?_)))
  rotate_left
  · rw [cz] at hk; exact zz_ex hk
  rw [cz] at hk
  obtain ⟨q, hq, rfl⟩ := iR_n (hi := 49) (by decide) cz
  rw [iR_m1, iR_m1] at hk
  have e1 : (-1 : Int32).toInt = -1 := by decide
  have e0 : (0 : Int32).toInt = 0 := by decide
  have i1 := zn_in (show q < 50 by omega) (show 50 < 2 ^ 31 by decide)
  have ok : ∀ v : Int32, (v = -1 ∨ iR 0 99999 v = true) → (decide (v = -1) || iR 0 99999 v) = true := fun v h => by
    rcases h with h | h
    · rw [decide_eq_true h]; rfl
    · rw [h, Bool.or_true]
  have ge : ∀ v : Int32, (v = -1 ∨ iR 0 99999 v = true) → -1 ≤ v.toInt := fun v h => by
    rcases h with h | h
    · rw [h]; decide
    · have := (iR_g h).1
      rw [zn_le, e0] at this
      omega
  have hxb : ¬ b = -1 → iR 0 99999 b = false → x "java/lang/IndexOutOfBoundsException" _ := fun h1 h2 => by
    rw [decide_eq_false h1, h2] at hk
    exact hk
  have hxe : (b = -1 ∨ iR 0 99999 b = true) → ¬ e = -1 → iR 0 99999 e = false → x "java/lang/IndexOutOfBoundsException" _ := fun h0 h1 h2 => by
    rw [ok b h0, decide_eq_false h1, h2] at hk
    exact hk
  have hxr : (b = -1 ∨ iR 0 99999 b = true) → (e = -1 ∨ iR 0 99999 e = true) → ¬ b = -1 → ¬ e ≤ b → x "java/lang/IndexOutOfBoundsException" _ := fun h0 h1 h2 h3 => by
    have g1 := ge b h0
    have g2 := ge e h1
    rw [zn_eq, e1] at h2
    rw [zn_le] at h3
    rw [ok b h0, ok e h1, decide_eq_true (p := (0 : Int32) ≤ b) (by rw [zn_le, e0]; omega), decide_eq_true (p := (0 : Int32) ≤ e) (by rw [zn_le, e0]; omega), decide_eq_true (p := b < e) (by rw [zn_lt]; omega)] at hk
    exact hk
  have hk0 : (b = -1 ∨ iR 0 99999 b = true) → (e = -1 ∨ iR 0 99999 e = true) → (b = -1 ∨ e ≤ b) → k none (gC (uDuty ((tb, tl), pa, (rk, mr, fr, bf, un), (kd, sz, mb, co), (wh, hd, gs), bk, sp, fl, wr) (nI q) b e) ++ R) := fun h0 h1 h2 => by
    rw [ok b h0, ok e h1] at hk
    rw [show (decide ((0 : Int32) ≤ b) && (decide ((0 : Int32) ≤ e) && decide (b < e))) = false by
      rcases h2 with h2 | h2
      · rw [h2]; rfl
      · rw [decide_eq_false (p := b < e) (fun z => by rw [zn_le] at h2; rw [zn_lt] at z; omega), Bool.and_false, Bool.and_false]] at hk
    exact hk
  refine And.intro (fun (d1 : b = -1) => ?_) (fun (d1 : ¬ b = -1) => ?_)
  · skip
    refine And.intro (fun (d2 : e = -1) => ?_) (fun (d2 : ¬ e = -1) => ?_)
    · skip
      refine And.intro (fun (d3 : b = -1) => ?_) (fun (d3 : ¬ b = -1) => ?_)
      · exact And.intro i1 (And.intro i1 (zz_ev0 (hk0 (Or.inl d1) (Or.inl d2) (Or.inl d3))))
      · refine And.intro (fun (d4 : e ≤ b) => ?_) (fun (d4 : ¬ e ≤ b) => ?_)
        · exact And.intro i1 (And.intro i1 (zz_ev0 (hk0 (Or.inl d1) (Or.inl d2) (Or.inr d4))))
        · exact zz_et (hxr (Or.inl d1) (Or.inl d2) d3 d4)
    · skip
      refine (And.intro (And.intro rfl (And.intro rfl (And.intro rfl (And.intro (by decide) (by decide))))) ?_)
      refine Exists.intro e (And.intro rfl (And.intro (fun c => ?_) (fun c => ?_)))
      rotate_left
      · exact zz_ex (hxe (Or.inl d1) d2 c)
      refine And.intro (fun (d3 : b = -1) => ?_) (fun (d3 : ¬ b = -1) => ?_)
      · exact And.intro i1 (And.intro i1 (zz_ev0 (hk0 (Or.inl d1) (Or.inr c) (Or.inl d3))))
      · refine And.intro (fun (d4 : e ≤ b) => ?_) (fun (d4 : ¬ e ≤ b) => ?_)
        · exact And.intro i1 (And.intro i1 (zz_ev0 (hk0 (Or.inl d1) (Or.inr c) (Or.inr d4))))
        · exact zz_et (hxr (Or.inl d1) (Or.inr c) d3 d4)
  · skip
    refine (And.intro (And.intro rfl (And.intro rfl (And.intro rfl (And.intro (by decide) (by decide))))) ?_)
    refine Exists.intro b (And.intro rfl (And.intro (fun cb => ?_) (fun cb => ?_)))
    rotate_left
    · exact zz_ex (hxb d1 cb)
    refine And.intro (fun (d2 : e = -1) => ?_) (fun (d2 : ¬ e = -1) => ?_)
    · skip
      refine And.intro (fun (d3 : b = -1) => ?_) (fun (d3 : ¬ b = -1) => ?_)
      · exact And.intro i1 (And.intro i1 (zz_ev0 (hk0 (Or.inr cb) (Or.inl d2) (Or.inl d3))))
      · refine And.intro (fun (d4 : e ≤ b) => ?_) (fun (d4 : ¬ e ≤ b) => ?_)
        · exact And.intro i1 (And.intro i1 (zz_ev0 (hk0 (Or.inr cb) (Or.inl d2) (Or.inr d4))))
        · exact zz_et (hxr (Or.inr cb) (Or.inl d2) d3 d4)
    · skip
      refine (And.intro (And.intro rfl (And.intro rfl (And.intro rfl (And.intro (by decide) (by decide))))) ?_)
      refine Exists.intro e (And.intro rfl (And.intro (fun c => ?_) (fun c => ?_)))
      rotate_left
      · exact zz_ex (hxe (Or.inr cb) d2 c)
      refine And.intro (fun (d3 : b = -1) => ?_) (fun (d3 : ¬ b = -1) => ?_)
      · exact And.intro i1 (And.intro i1 (zz_ev0 (hk0 (Or.inr cb) (Or.inr c) (Or.inl d3))))
      · refine And.intro (fun (d4 : e ≤ b) => ?_) (fun (d4 : ¬ e ≤ b) => ?_)
        · exact And.intro i1 (And.intro i1 (zz_ev0 (hk0 (Or.inr cb) (Or.inr c) (Or.inr d4))))
        · exact zz_et (hxr (Or.inr cb) (Or.inr c) d3 d4)
theorem recv_Cr_duty : ∀ As ws k x, pt_Cr_duty As ws k x → ∃ q As' fs, As = .ref q :: As' ∧ ws[q]? = some (.inr (0, fs)) := by
  rintro As ws k x ⟨s, R, p, b, e, rfl, rfl, hk⟩
  exact ⟨_, _, _, rfl, rfl⟩
def oKind (c k : Int32) : Nat := bif !iR 0 19 c then 1 else bif !iR 1 9 k then 2 else 0
def uKind (s : qC) (c j : Int32) : qC := (s.1, s.2.1, s.2.2.1, (upd s.2.2.2.1.1 c.toNatClampNeg j, s.2.2.2.1.2), s.2.2.2.2)
def pt_Cr_kind : zz_PT := fun As ws k x => ∃ (s : qC) (R : List va_E) (c j : Int32), As = [.ref 0, .int c, .int j] ∧ ws = gC s ++ R ∧ zo (oKind c j) (x "java/lang/IllegalArgumentException" ws) (x "java/lang/IndexOutOfBoundsException" ws) False (k none (gC (uKind s c j) ++ R))
set_option maxHeartbeats 4000000 in
set_option maxRecDepth 100000 in
theorem m_Cr_kind (l : Launch) (hl : l.stackTraces = false) : zz_M zz_CL l y_Cr_kind (Cond.code y_Cr_kind c_Cr_kind 3 none :: zz_big) (zz_rm 7 102 1 6) (3, false, 0, 0, pt_Cr_kind) := by
  refine zz_M_of (HOST := "CrewRules") (L := [(1, 128, (1, false, 0, 0, pt_Cr_requireCrew))]) (sw := sw_Cr_kind) (pg := pg_Cr_kind) (th := th_Cr_kind) (ini := false) (by decide +kernel) zz_static (fun h => nomatch h) (by decide) (by decide) ok_Cr_kind (zz_cons (zz_ev_S (m_Cr_requireCrew l hl) yw_Cr_requireCrew ys_Cr_requireCrew lk_Cr_128 ⟨rfl, rfl, by decide, by decide⟩) zz_nil) (tk_Cr_kind hl (by decide) (by decide)) (zz_VC0 60 ?_)
  rintro As ws k x ⟨⟨⟨tb, tl⟩, pa, ⟨rk, mr, fr, bf, un⟩, ⟨kd, sz, mb, co⟩, ⟨wh, hd, gs⟩, bk, sp, fl, wr⟩, R, p, m, rfl, rfl, hk⟩
  unfold oKind at hk
  refine ⟨Nat.le_of_ble_eq_true rfl, ?_⟩
  refine (And.intro (And.intro rfl (And.intro rfl (And.intro rfl (And.intro (by decide) (by decide))))) ?_)
  refine Exists.intro p (And.intro rfl (And.intro (fun cz => ?_) (fun cz => ?_)))
  rotate_left
  · rw [cz] at hk; exact zz_ex hk
  rw [cz] at hk
  obtain ⟨q, hq, rfl⟩ := iR_n (hi := 19) (by decide) cz
  refine And.intro (fun (d : m < 1) => ?_) (fun (d : ¬ m < 1) => ?_)
  · rw [iR_lo d] at hk
    exact zz_et hk
  refine And.intro (fun (e : m ≤ 9) => ?_) (fun (e : ¬ m ≤ 9) => ?_)
  · rw [iR_t (zn_nl d) e] at hk
    exact And.intro (zn_in (by omega) (by decide)) (zz_ev0 hk)
  · rw [iR_hi e] at hk
    exact zz_et hk
theorem recv_Cr_kind : ∀ As ws k x, pt_Cr_kind As ws k x → ∃ q As' fs, As = .ref q :: As' ∧ ws[q]? = some (.inr (0, fs)) := by
  rintro As ws k x ⟨s, R, c, j, rfl, rfl, hk⟩
  exact ⟨_, _, _, rfl, rfl⟩
def oJoin (w : qW) (c p : Int32) : Nat := bif !iR 0 19 c || !iR 0 49 p then 1 else bif cb w.2.2.1 c.toNatClampNeg p.toNatClampNeg then 2 else bif decide (12 ≤ w.2.1 c.toNatClampNeg) then 3 else 0
def oLeave (w : qW) (c p : Int32) : Nat := bif !iR 0 19 c || !iR 0 49 p then 1 else bif !cb w.2.2.1 c.toNatClampNeg p.toNatClampNeg then 2 else 0
def uW (s : qC) (w : qW) : qC := (s.1, s.2.1, s.2.2.1, w, s.2.2.2.2)
def pt_Cr_join : zz_PT := fun As ws k x => ∃ (s : qC) (R : List va_E) (c p : Int32), As = [.ref 0, .int c, .int p] ∧ ws = gC s ++ R ∧ zo (oJoin s.2.2.2.1 c p) (x "java/lang/IllegalArgumentException" ws) (x "java/lang/IllegalStateException" ws) (x "java/lang/UnsupportedOperationException" ws) (k (some (.int ((cAdd c.toNatClampNeg p.toNatClampNeg s.2.2.2.1).2.1 c.toNatClampNeg))) (gC (uW s (cAdd c.toNatClampNeg p.toNatClampNeg s.2.2.2.1)) ++ R))
def pt_Cr_leave : zz_PT := fun As ws k x => ∃ (s : qC) (R : List va_E) (c p : Int32), As = [.ref 0, .int c, .int p] ∧ ws = gC s ++ R ∧ zo (oLeave s.2.2.2.1 c p) (x "java/lang/IllegalArgumentException" ws) (x "java/lang/IllegalStateException" ws) False (k (some (.int ((cRem c.toNatClampNeg p.toNatClampNeg s.2.2.2.1).2.1 c.toNatClampNeg))) (gC (uW s (cRem c.toNatClampNeg p.toNatClampNeg s.2.2.2.1)) ++ R))
set_option maxHeartbeats 4000000 in
set_option maxRecDepth 100000 in
theorem m_Cr_join (l : Launch) (hl : l.stackTraces = false) : zz_M zz_CL l y_Cr_join (Cond.code y_Cr_join c_Cr_join 3 (some .int) :: zz_big) (zz_rm 7 102 1 6) (3, false, 0, 0, pt_Cr_join) := by
  refine zz_M_of (HOST := "CrewRules") (L := [(1, 128, (1, false, 0, 0, pt_Cr_requireCrew)), (1, 96, (1, false, 0, 0, pt_Cr_requirePerson)), (0, 136, (3, false, 0, 0, pt_Cw_has)), (0, 147, (3, false, 0, 0, pt_Cw_add))]) (sw := sw_Cr_join) (pg := pg_Cr_join) (th := th_Cr_join) (ini := false) (by decide +kernel) zz_static (fun h => nomatch h) (by decide) (by decide) ok_Cr_join (zz_cons (zz_ev_S (m_Cr_requireCrew l hl) yw_Cr_requireCrew ys_Cr_requireCrew lk_Cr_128 ⟨rfl, rfl, by decide, by decide⟩) (zz_cons (zz_ev_S (m_Cr_requirePerson l hl) yw_Cr_requirePerson ys_Cr_requirePerson lk_Cr_96 ⟨rfl, rfl, by decide, by decide⟩) (zz_cons (zz_ev_V (m_Cw_has l) yw_Cw_has yv_Cw_has lk_Cr_136 ⟨rfl, rfl, by decide, by decide⟩ (ci := 4) rfl recv_Cw_has) (zz_cons (zz_ev_V (m_Cw_add l) yw_Cw_add yv_Cw_add lk_Cr_147 ⟨rfl, rfl, by decide, by decide⟩ (ci := 4) rfl recv_Cw_add) zz_nil)))) (tk_Cr_join hl (by decide) (by decide)) (zz_VC0 80 ?_)
  rintro As ws k x ⟨⟨⟨tb, tl⟩, pa, ⟨rk, mr, fr, bf, un⟩, ⟨kd, sz, mb, co⟩, ⟨wh, hd, gs⟩, bk, sp, fl, wr⟩, R, c1, p1, rfl, rfl, hk⟩
  unfold oJoin at hk
  refine ⟨Nat.le_of_ble_eq_true rfl, ?_⟩
  refine (And.intro (And.intro rfl (And.intro rfl (And.intro rfl (And.intro (by decide) (by decide))))) ?_)
  refine Exists.intro c1 (And.intro rfl (And.intro (fun cz => ?_) (fun cz => ?_)))
  rotate_left
  · rw [cz] at hk; exact zz_ex hk
  rw [cz] at hk
  obtain ⟨c, hc, rfl⟩ := iR_n (hi := 19) (by decide) cz
  refine (And.intro (And.intro rfl (And.intro rfl (And.intro rfl (And.intro (by decide) (by decide))))) ?_)
  refine Exists.intro p1 (And.intro rfl (And.intro (fun cz => ?_) (fun cz => ?_)))
  rotate_left
  · rw [cz] at hk; exact zz_ex hk
  rw [cz] at hk
  obtain ⟨p, hp, rfl⟩ := iR_n (hi := 49) (by decide) cz
  have ec : (nI c).toNatClampNeg = c := nI_clamp (by omega)
  have ep : (nI p).toNatClampNeg = p := nI_clamp (by omega)
  have i1 := zn_in (show c < 20 by omega) (show 20 < 2 ^ 31 by decide)
  rw [ec, ep] at hk
  refine (And.intro (And.intro rfl (And.intro rfl (And.intro rfl (And.intro (by decide) (by decide))))) ?_)
  refine Exists.intro ((tb, tl), pa, (rk, mr, fr, bf, un), (kd, sz, mb, co), (wh, hd, gs), bk, sp, fl, wr) (Exists.intro R (Exists.intro c (Exists.intro p (And.intro (by omega) (And.intro (by omega) (And.intro rfl (And.intro rfl (?_))))))))
  refine And.intro (fun d => And.intro i1 ?_) (fun d => ?_)
  · have d := zb_0.mp d
    rw [d] at hk
    refine And.intro (fun (e : sz (nI c).toNatClampNeg < 12) => ?_) (fun (e : ¬ sz (nI c).toNatClampNeg < 12) => ?_)
    · rw [ec] at e
      rw [decide_eq_false (p := (12 : Int32) ≤ sz c) (fun z => by rw [zn_le] at z; rw [zn_lt] at e; omega)] at hk
      have hk : k (some (.int ((cAdd c p (kd, sz, mb, co)).2.1 c))) (gC (uW ((tb, tl), pa, (rk, mr, fr, bf, un), (kd, sz, mb, co), (wh, hd, gs), bk, sp, fl, wr) (cAdd c p (kd, sz, mb, co))) ++ R) := hk
      rw [show (cAdd c p (kd, sz, mb, co)).2.1 c = (cAdd c p (kd, sz, mb, co)).2.1 (nI c).toNatClampNeg by rw [ec]] at hk
      refine (And.intro (And.intro rfl (And.intro rfl (And.intro rfl (And.intro (by decide) (by decide))))) ?_)
      refine Exists.intro ((tb, tl), pa, (rk, mr, fr, bf, un), (kd, sz, mb, co), (wh, hd, gs), bk, sp, fl, wr) (Exists.intro R (Exists.intro c (Exists.intro p (And.intro (by omega) (And.intro (by omega) (And.intro rfl (And.intro rfl (?_))))))))
      exact And.intro i1 (zz_e0 hk)
    · rw [ec] at e
      rw [decide_eq_true (p := (12 : Int32) ≤ sz c) (zn_nl e)] at hk
      exact zz_et hk
  · have d := zb_n.mp d
    rw [d] at hk
    exact zz_et hk
theorem recv_Cr_join : ∀ As ws k x, pt_Cr_join As ws k x → ∃ q As' fs, As = .ref q :: As' ∧ ws[q]? = some (.inr (0, fs)) := by
  rintro As ws k x ⟨s, R, c, p, rfl, rfl, hk⟩
  exact ⟨_, _, _, rfl, rfl⟩
set_option maxHeartbeats 4000000 in
set_option maxRecDepth 100000 in
theorem m_Cr_leave (l : Launch) (hl : l.stackTraces = false) : zz_M zz_CL l y_Cr_leave (Cond.code y_Cr_leave c_Cr_leave 3 (some .int) :: zz_big) (zz_rm 7 102 1 6) (3, false, 0, 0, pt_Cr_leave) := by
  refine zz_M_of (HOST := "CrewRules") (L := [(1, 128, (1, false, 0, 0, pt_Cr_requireCrew)), (1, 96, (1, false, 0, 0, pt_Cr_requirePerson)), (0, 136, (3, false, 0, 0, pt_Cw_has)), (0, 153, (3, false, 0, 0, pt_Cw_remove))]) (sw := sw_Cr_leave) (pg := pg_Cr_leave) (th := th_Cr_leave) (ini := false) (by decide +kernel) zz_static (fun h => nomatch h) (by decide) (by decide) ok_Cr_leave (zz_cons (zz_ev_S (m_Cr_requireCrew l hl) yw_Cr_requireCrew ys_Cr_requireCrew lk_Cr_128 ⟨rfl, rfl, by decide, by decide⟩) (zz_cons (zz_ev_S (m_Cr_requirePerson l hl) yw_Cr_requirePerson ys_Cr_requirePerson lk_Cr_96 ⟨rfl, rfl, by decide, by decide⟩) (zz_cons (zz_ev_V (m_Cw_has l) yw_Cw_has yv_Cw_has lk_Cr_136 ⟨rfl, rfl, by decide, by decide⟩ (ci := 4) rfl recv_Cw_has) (zz_cons (zz_ev_V (m_Cw_remove l) yw_Cw_remove yv_Cw_remove lk_Cr_153 ⟨rfl, rfl, by decide, by decide⟩ (ci := 4) rfl recv_Cw_remove) zz_nil)))) (tk_Cr_leave hl (by decide) (by decide)) (zz_VC0 80 ?_)
  rintro As ws k x ⟨⟨⟨tb, tl⟩, pa, ⟨rk, mr, fr, bf, un⟩, ⟨kd, sz, mb, co⟩, ⟨wh, hd, gs⟩, bk, sp, fl, wr⟩, R, c1, p1, rfl, rfl, hk⟩
  unfold oLeave at hk
  refine ⟨Nat.le_of_ble_eq_true rfl, ?_⟩
  refine (And.intro (And.intro rfl (And.intro rfl (And.intro rfl (And.intro (by decide) (by decide))))) ?_)
  refine Exists.intro c1 (And.intro rfl (And.intro (fun cz => ?_) (fun cz => ?_)))
  rotate_left
  · rw [cz] at hk; exact zz_ex hk
  rw [cz] at hk
  obtain ⟨c, hc, rfl⟩ := iR_n (hi := 19) (by decide) cz
  refine (And.intro (And.intro rfl (And.intro rfl (And.intro rfl (And.intro (by decide) (by decide))))) ?_)
  refine Exists.intro p1 (And.intro rfl (And.intro (fun cz => ?_) (fun cz => ?_)))
  rotate_left
  · rw [cz] at hk; exact zz_ex hk
  rw [cz] at hk
  obtain ⟨p, hp, rfl⟩ := iR_n (hi := 49) (by decide) cz
  have ec : (nI c).toNatClampNeg = c := nI_clamp (by omega)
  have ep : (nI p).toNatClampNeg = p := nI_clamp (by omega)
  have i1 := zn_in (show c < 20 by omega) (show 20 < 2 ^ 31 by decide)
  rw [ec, ep] at hk
  refine (And.intro (And.intro rfl (And.intro rfl (And.intro rfl (And.intro (by decide) (by decide))))) ?_)
  refine Exists.intro ((tb, tl), pa, (rk, mr, fr, bf, un), (kd, sz, mb, co), (wh, hd, gs), bk, sp, fl, wr) (Exists.intro R (Exists.intro c (Exists.intro p (And.intro (by omega) (And.intro (by omega) (And.intro rfl (And.intro rfl (?_))))))))
  refine And.intro (fun d => ?_) (fun d => ?_)
  · have d := zb_n.mp d
    rw [d] at hk
    have hk : k (some (.int ((cRem c p (kd, sz, mb, co)).2.1 c))) (gC (uW ((tb, tl), pa, (rk, mr, fr, bf, un), (kd, sz, mb, co), (wh, hd, gs), bk, sp, fl, wr) (cRem c p (kd, sz, mb, co))) ++ R) := hk
    rw [show (cRem c p (kd, sz, mb, co)).2.1 c = (cRem c p (kd, sz, mb, co)).2.1 (nI c).toNatClampNeg by rw [ec]] at hk
    refine (And.intro (And.intro rfl (And.intro rfl (And.intro rfl (And.intro (by decide) (by decide))))) ?_)
    refine Exists.intro ((tb, tl), pa, (rk, mr, fr, bf, un), (kd, sz, mb, co), (wh, hd, gs), bk, sp, fl, wr) (Exists.intro R (Exists.intro c (Exists.intro p (And.intro (by omega) (And.intro (by omega) (And.intro rfl (And.intro rfl (?_))))))))
    exact And.intro i1 (zz_e0 hk)
  · have d := zb_0.mp d
    rw [d] at hk
    exact zz_et hk
theorem recv_Cr_leave : ∀ As ws k x, pt_Cr_leave As ws k x → ∃ q As' fs, As = .ref q :: As' ∧ ws[q]? = some (.inr (0, fs)) := by
  rintro As ws k x ⟨s, R, c, p, rfl, rfl, hk⟩
  exact ⟨_, _, _, rfl, rfl⟩
def sG (s : qC) (c : Int32) : List Nat := cg s.2.2.2.1.2.2.1 s.2.2.2.1.2.2.2 s.2.2.1.2.1 c.toNatClampNeg 50
def uG (s : qC) (g : qG) : qC := (s.1, s.2.1, s.2.2.1, s.2.2.2.1, g, s.2.2.2.2.2)
def oCrew (c : Int32) : Nat := bif !iR 0 19 c then 1 else 0
def pt_Cr_counts : zz_PT := fun As ws k x => ∃ (s : qC) (R : List va_E) (c : Int32), As = [.ref 0, .int c] ∧ ws = gC s ++ R ∧ zo (oCrew c) (x "java/lang/IllegalArgumentException" ws) False False (∀ g : qG, k (some (.int (nI (sG s c).length))) (gC (uG s g) ++ R))
def pt_Cr_leader : zz_PT := fun As ws k x => ∃ (s : qC) (R : List va_E) (c : Int32), As = [.ref 0, .int c] ∧ ws = gC s ++ R ∧ zo (oCrew c) (x "java/lang/IllegalArgumentException" ws) False False (∀ g : qG, k (some (.int (gr ((sG s c).foldl (gb s.2.2.1.1 s.2.2.1.2.1) none)))) (gC (uG s g) ++ R))
set_option maxHeartbeats 4000000 in
set_option maxRecDepth 100000 in
theorem m_Cr_counts (l : Launch) (hl : l.stackTraces = false) : zz_M zz_CL l y_Cr_counts (Cond.code y_Cr_counts c_Cr_counts 2 (some .int) :: zz_big) (zz_rm 7 109 1 6) (2, false, 0, 0, pt_Cr_counts) := by
  refine zz_M_of (HOST := "CrewRules") (L := [(1, 128, (1, false, 0, 0, pt_Cr_requireCrew)), (0, 162, (2, false, 0, 0, pt_Gr_gatherCrew))]) (sw := sw_Cr_counts) (pg := pg_Cr_counts) (th := th_Cr_counts) (ini := false) (by decide +kernel) zz_static (fun h => nomatch h) (by decide) (by decide) ok_Cr_counts (zz_cons (zz_ev_S (m_Cr_requireCrew l hl) yw_Cr_requireCrew ys_Cr_requireCrew lk_Cr_128 ⟨rfl, rfl, by decide, by decide⟩) (zz_cons (zz_ev_V (m_Gr_gatherCrew l) yw_Gr_gatherCrew yv_Gr_gatherCrew lk_Cr_162 ⟨rfl, rfl, by decide, by decide⟩ (ci := 5) rfl recv_Gr_gatherCrew) zz_nil)) (fun pc E h => (nomatch h)) (zz_VC0 60 ?_)
  rintro As ws k x ⟨⟨⟨tb, tl⟩, pa, ⟨rk, mr, fr, bf, un⟩, ⟨kd, sz, mb, co⟩, ⟨wh, hd, gs⟩, bk, sp, fl, wr⟩, R, c1, rfl, rfl, hk⟩
  unfold oCrew at hk
  refine ⟨Nat.le_of_ble_eq_true rfl, ?_⟩
  refine (And.intro (And.intro rfl (And.intro rfl (And.intro rfl (And.intro (by decide) (by decide))))) ?_)
  refine Exists.intro c1 (And.intro rfl (And.intro (fun cz => ?_) (fun cz => ?_)))
  rotate_left
  · rw [cz] at hk; exact zz_ex hk
  rw [cz] at hk
  obtain ⟨c, hc, rfl⟩ := iR_n (hi := 19) (by decide) cz
  have ec : (nI c).toNatClampNeg = c := nI_clamp (by omega)
  refine (And.intro (And.intro rfl (And.intro rfl (And.intro rfl (And.intro (by decide) (by decide))))) ?_)
  refine Exists.intro ((tb, tl), pa, (rk, mr, fr, bf, un), (kd, sz, mb, co), (wh, hd, gs), bk, sp, fl, wr) (Exists.intro R (Exists.intro c (And.intro (by omega) (And.intro rfl (And.intro rfl (?_))))))
  intro wh gs hg
  rw [← ec] at hg
  have hk : ∀ g : qG, k (some (.int (nI (cg mb co mr (nI c).toNatClampNeg 50).length))) (gC (uG ((tb, tl), pa, (rk, mr, fr, bf, un), (kd, sz, mb, co), (wh, hd, gs), bk, sp, fl, wr) g) ++ R) := hk
  rw [← hg.1] at hk
  exact zz_e0 (hk (wh, hd, gs))
theorem recv_Cr_counts : ∀ As ws k x, pt_Cr_counts As ws k x → ∃ q As' fs, As = .ref q :: As' ∧ ws[q]? = some (.inr (0, fs)) := by
  rintro As ws k x ⟨s, R, c, rfl, rfl, hk⟩
  exact ⟨_, _, _, rfl, rfl⟩
set_option maxHeartbeats 4000000 in
set_option maxRecDepth 100000 in
theorem m_Cr_leader (l : Launch) (hl : l.stackTraces = false) : zz_M zz_CL l y_Cr_leader (Cond.code y_Cr_leader c_Cr_leader 2 (some .int) :: zz_big) (zz_rm 7 109 1 6) (2, false, 0, 0, pt_Cr_leader) := by
  refine zz_M_of (HOST := "CrewRules") (L := [(1, 128, (1, false, 0, 0, pt_Cr_requireCrew)), (0, 162, (2, false, 0, 0, pt_Gr_gatherCrew)), (0, 199, (1, false, 0, 0, pt_Gr_highestInRank))]) (sw := sw_Cr_leader) (pg := pg_Cr_leader) (th := th_Cr_leader) (ini := false) (by decide +kernel) zz_static (fun h => nomatch h) (by decide) (by decide) ok_Cr_leader (zz_cons (zz_ev_S (m_Cr_requireCrew l hl) yw_Cr_requireCrew ys_Cr_requireCrew lk_Cr_128 ⟨rfl, rfl, by decide, by decide⟩) (zz_cons (zz_ev_V (m_Gr_gatherCrew l) yw_Gr_gatherCrew yv_Gr_gatherCrew lk_Cr_162 ⟨rfl, rfl, by decide, by decide⟩ (ci := 5) rfl recv_Gr_gatherCrew) (zz_cons (zz_ev_V (m_Gr_highestInRank l) yw_Gr_highestInRank yv_Gr_highestInRank lk_Cr_199 ⟨rfl, rfl, by decide, by decide⟩ (ci := 5) rfl recv_Gr_highestInRank) zz_nil))) (fun pc E h => (nomatch h)) (zz_VC0 60 ?_)
  rintro As ws k x ⟨⟨⟨tb, tl⟩, pa, ⟨rk, mr, fr, bf, un⟩, ⟨kd, sz, mb, co⟩, ⟨wh, hd, gs⟩, bk, sp, fl, wr⟩, R, c1, rfl, rfl, hk⟩
  unfold oCrew at hk
  refine ⟨Nat.le_of_ble_eq_true rfl, ?_⟩
  refine (And.intro (And.intro rfl (And.intro rfl (And.intro rfl (And.intro (by decide) (by decide))))) ?_)
  refine Exists.intro c1 (And.intro rfl (And.intro (fun cz => ?_) (fun cz => ?_)))
  rotate_left
  · rw [cz] at hk; exact zz_ex hk
  rw [cz] at hk
  obtain ⟨c, hc, rfl⟩ := iR_n (hi := 19) (by decide) cz
  have ec : (nI c).toNatClampNeg = c := nI_clamp (by omega)
  refine (And.intro (And.intro rfl (And.intro rfl (And.intro rfl (And.intro (by decide) (by decide))))) ?_)
  refine Exists.intro ((tb, tl), pa, (rk, mr, fr, bf, un), (kd, sz, mb, co), (wh, hd, gs), bk, sp, fl, wr) (Exists.intro R (Exists.intro c (And.intro (by omega) (And.intro rfl (And.intro rfl (?_))))))
  intro wh gs hg
  rw [← ec] at hg
  have hk : ∀ g : qG, k (some (.int (gr ((cg mb co mr (nI c).toNatClampNeg 50).foldl (gb rk mr) none)))) (gC (uG ((tb, tl), pa, (rk, mr, fr, bf, un), (kd, sz, mb, co), (wh, hd, gs), bk, sp, fl, wr) g) ++ R) := hk
  refine (And.intro (And.intro rfl (And.intro rfl (And.intro rfl (And.intro (by decide) (by decide))))) ?_)
  refine Exists.intro ((tb, tl), pa, (rk, mr, fr, bf, un), (kd, sz, mb, co), (wh, hd, gs), bk, sp, fl, wr) (Exists.intro R (Exists.intro _ (And.intro hg (And.intro rfl (And.intro rfl (?_))))))
  exact zz_e0 (hk (wh, hd, gs))
theorem recv_Cr_leader : ∀ As ws k x, pt_Cr_leader As ws k x → ∃ q As' fs, As = .ref q :: As' ∧ ws[q]? = some (.inr (0, fs)) := by
  rintro As ws k x ⟨s, R, c, rfl, rfl, hk⟩
  exact ⟨_, _, _, rfl, rfl⟩
