/-! ===== the makers ===== -/
def zj (v : Int32) (j : Nat) : qA := fun p => if p < j then v else 0
theorem zj_0 {v : Int32} : zj v 0 = fun _ => 0 := by
  funext p; exact if_neg (Nat.not_lt_zero p)
theorem zj_s {v : Int32} {j : Nat} : upd (zj v j) j v = zj v (j + 1) := by
  funext p
  by_cases q : p = j
  · rw [q, pk_us]; exact (if_pos (Nat.lt_succ_self j)).symm
  · rw [pk_un q]
    unfold zj
    by_cases r : p < j
    · rw [if_pos r, if_pos (by omega)]
    · rw [if_neg r, if_neg (by omega)]
abbrev z0 : qA := fun _ => 0
def k8 (a b c d e f g : Value) (v : Int32) : va_E := .inr (0, [a, b, c, d, e, f, g, .int v])
def pt_Ta_init : zz_PT := fun As ws k _ => As = [.ref 1] ∧ ws = [k8 .null .null .null .null .null .null .null 0, .inr (1, [.null, .int 0])] ∧ k none [k8 .null .null .null .null .null .null .null 0, .inr (1, [.ref 2, .int 0]), .inl (0, 300, .inl z0)]
set_option maxHeartbeats 4000000 in
set_option maxRecDepth 100000 in
theorem m_Ta_init (l : Launch) : zz_M zz_CL l y_Ta_init (Cond.code y_Ta_init c_Ta_init 1 none :: zz_big) (zz_rm 1 20 2 306) (1, true, 1, 300, pt_Ta_init) := by
  refine zz_M_of (HOST := "CrewRules") (L := []) (sw := sw_Ta_init) (pg := pg_Ta_init) (th := th_Ta_init) (ini := true) (by decide +kernel) zz_static (fun _ => rfl) (by decide) (by decide) ok_Ta_init zz_nil (fun pc E h => (nomatch h)) (zz_VC0 40 ?_)
  rintro As ws k x ⟨rfl, rfl, hk⟩
  refine ⟨Nat.le_of_ble_eq_true rfl, ?_⟩
  refine (And.intro (And.intro rfl (And.intro rfl (And.intro (by decide) (And.intro (by decide) (And.intro rfl (by decide)))))) ?_)
  exact And.intro rfl (And.intro (And.intro (by decide) (by decide)) hk)
theorem recv_Ta_init : ∀ As ws k x, pt_Ta_init As ws k x → (∃ q As', As = .ref q :: As') ∧ pt_Ta_init As ws k (fun _ _ => False) := by
  rintro As ws k x ⟨rfl, rfl, hk⟩
  exact ⟨⟨_, _, rfl⟩, rfl, rfl, hk⟩
def w3 (pa : Value) : List va_E := [k8 (.ref 1) .null .null .null .null .null .null 0, .inr (1, [.ref 2, .int 0]), .inl (0, 300, .inl z0), .inr (2, [pa, .int 0])]
def pt_Pa_init : zz_PT := fun As ws k _ => As = [.ref 3, .ref 1] ∧ ws = w3 .null ∧ k none (w3 (.ref 1))
set_option maxHeartbeats 4000000 in
set_option maxRecDepth 100000 in
theorem m_Pa_init (l : Launch) : zz_M zz_CL l y_Pa_init (Cond.code y_Pa_init c_Pa_init 2 none :: zz_big) (zz_rm 1 20 1 6) (2, true, 0, 0, pt_Pa_init) := by
  refine zz_M_of (HOST := "CrewRules") (L := []) (sw := sw_Pa_init) (pg := pg_Pa_init) (th := th_Pa_init) (ini := true) (by decide +kernel) zz_static (fun _ => rfl) (by decide) (by decide) ok_Pa_init zz_nil (fun pc E h => (nomatch h)) (zz_VC0 40 ?_)
  rintro As ws k x ⟨rfl, rfl, hk⟩
  refine ⟨Nat.le_of_ble_eq_true rfl, ?_⟩
  exact And.intro rfl (And.intro (And.intro (by decide) (by decide)) hk)
theorem recv_Pa_init : ∀ As ws k x, pt_Pa_init As ws k x → (∃ q As', As = .ref q :: As') ∧ pt_Pa_init As ws k (fun _ _ => False) := by
  rintro As ws k x ⟨rfl, rfl, hk⟩
  exact ⟨⟨_, _, rfl⟩, rfl, rfl, hk⟩
def w4 : List va_E := [k8 (.ref 1) (.ref 3) .null .null .null .null .null 0, .inr (1, [.ref 2, .int 0]), .inl (0, 300, .inl z0), .inr (2, [.ref 1, .int 0])]
def pt_Pe_init : zz_PT := fun As ws k _ => As = [.ref 4] ∧ ws = w4 ++ [.inr (3, [.null, .null, .null, .null, .null])] ∧ k none (w4 ++ [.inr (3, [.ref 5, .ref 6, .ref 7, .ref 8, .ref 9]), .inl (0, 50, .inl z0), .inl (0, 50, .inl z0), .inl (0, 50, .inl (zj (-1) 50)), .inl (0, 50, .inl (zj (-1) 50)), .inl (0, 500, .inl z0)])
set_option maxHeartbeats 4000000 in
set_option maxRecDepth 100000 in
theorem m_Pe_init (l : Launch) : zz_M zz_CL l y_Pe_init (Cond.code y_Pe_init c_Pe_init 2 none :: zz_big) (zz_rm 1 20 6 706) (1, true, 5, 700, pt_Pe_init) := by
  refine zz_M_of (HOST := "CrewRules") (L := []) (sw := sw_Pe_init) (pg := pg_Pe_init) (th := th_Pe_init) (ini := true) (by decide +kernel) zz_static (fun _ => rfl) (by decide) (by decide) ok_Pe_init zz_nil (fun pc E h => (nomatch h)) (zz_VC1 80 47 [true, true] rfl ?_)
  rintro As ws k x ⟨rfl, rfl, hk⟩
  refine ⟨Nat.le_of_ble_eq_true rfl, fun z ls st ws nc ns => ∃ j, j ≤ 50 ∧ z = 50 - j ∧ ls = [some (.ref 4), some (.int (nI j))] ∧ st = [] ∧ ws = w4 ++ [.inr (3, [.ref 5, .ref 6, .ref 7, .ref 8, .ref 9]), .inl (0, 50, .inl z0), .inl (0, 50, .inl z0), .inl (0, 50, .inl (zj (-1) j)), .inl (0, 50, .inl (zj (-1) j)), .inl (0, 500, .inl z0)] ∧ nc = 5 ∧ ns = 700, ?_, ?_⟩
  · rintro z ls st ws nc ns ⟨j, hj, rfl, rfl, rfl, rfl, rfl, rfl⟩
    refine And.intro (fun (c1 : 50 ≤ nI j) => ?_) (fun (c1 : ¬ 50 ≤ nI j) => ?_)
    · have : j = 50 := by
        have := (nI_leI (a := 50) (by decide) (by omega)).mp c1
        omega
      subst this
      exact And.intro rfl (And.intro (And.intro (by decide) (by decide)) hk)
    · have hj2 : j < 50 := Nat.lt_of_not_le (fun z : 50 ≤ j => c1 (nI_le z (by omega)))
      have e2 : (nI j).toNatClampNeg = j := nI_clamp (by omega)
      have i1 := zn_in hj2 (show 50 < 2 ^ 31 by decide)
      refine And.intro i1 (And.intro i1 ?_)
      refine Exists.intro (50 - (j + 1)) (And.intro (by show 50 - (j + 1) < 50 - j; omega) ⟨j + 1, hj2, rfl, by rw [← nI_1]; rfl, rfl, ?_, rfl, rfl⟩)
      have e3 : upd (zj (-1) j) (nI j).toNatClampNeg (-1) = zj (-1) (j + 1) := by rw [e2]; exact zj_s
      rw [← e3]
      rfl
  · refine (And.intro (And.intro rfl (And.intro rfl (And.intro (by decide) (And.intro (by decide) (And.intro rfl (by decide)))))) ?_)
    refine (And.intro (And.intro rfl (And.intro rfl (And.intro (by decide) (And.intro (by decide) (And.intro rfl (by decide)))))) ?_)
    refine (And.intro (And.intro rfl (And.intro rfl (And.intro (by decide) (And.intro (by decide) (And.intro rfl (by decide)))))) ?_)
    refine (And.intro (And.intro rfl (And.intro rfl (And.intro (by decide) (And.intro (by decide) (And.intro rfl (by decide)))))) ?_)
    refine (And.intro (And.intro rfl (And.intro rfl (And.intro (by decide) (And.intro (by decide) (And.intro rfl (by decide)))))) ?_)
    exact Exists.intro 50 (And.intro trivial ⟨0, by decide, rfl, rfl, rfl, by rw [zj_0]; rfl, rfl, rfl⟩)
theorem recv_Pe_init : ∀ As ws k x, pt_Pe_init As ws k x → (∃ q As', As = .ref q :: As') ∧ pt_Pe_init As ws k (fun _ _ => False) := by
  rintro As ws k x ⟨rfl, rfl, hk⟩
  exact ⟨⟨_, _, rfl⟩, rfl, rfl, hk⟩
def w10 : List va_E := [k8 (.ref 1) (.ref 3) (.ref 4) .null .null .null .null 0, .inr (1, [.ref 2, .int 0]), .inl (0, 300, .inl z0), .inr (2, [.ref 1, .int 0]), .inr (3, [.ref 5, .ref 6, .ref 7, .ref 8, .ref 9]), .inl (0, 50, .inl z0), .inl (0, 50, .inl z0), .inl (0, 50, .inl (zj (-1) 50)), .inl (0, 50, .inl (zj (-1) 50)), .inl (0, 500, .inl z0)]
def pt_Cw_init : zz_PT := fun As ws k _ => As = [.ref 10] ∧ ws = w10 ++ [.inr (4, [.null, .null, .null, .null])] ∧ k none (w10 ++ [.inr (4, [.ref 11, .ref 12, .ref 13, .ref 14]), .inl (0, 20, .inl (zj 1 20)), .inl (0, 20, .inl z0), .inl (2, 20, .inr (.inl (fun _ => 0))), .inl (0, 50, .inl z0)])
set_option maxHeartbeats 4000000 in
set_option maxRecDepth 100000 in
theorem m_Cw_init (l : Launch) : zz_M zz_CL l y_Cw_init (Cond.code y_Cw_init c_Cw_init 2 none :: zz_big) (zz_rm 1 20 5 116) (1, true, 4, 110, pt_Cw_init) := by
  refine zz_M_of (HOST := "CrewRules") (L := []) (sw := sw_Cw_init) (pg := pg_Cw_init) (th := th_Cw_init) (ini := true) (by decide +kernel) zz_static (fun _ => rfl) (by decide) (by decide) ok_Cw_init zz_nil (fun pc E h => (nomatch h)) (zz_VC1 80 38 [true, true] rfl ?_)
  rintro As ws k x ⟨rfl, rfl, hk⟩
  refine ⟨Nat.le_of_ble_eq_true rfl, fun z ls st ws nc ns => ∃ j, j ≤ 20 ∧ z = 20 - j ∧ ls = [some (.ref 10), some (.int (nI j))] ∧ st = [] ∧ ws = w10 ++ [.inr (4, [.ref 11, .ref 12, .ref 13, .ref 14]), .inl (0, 20, .inl (zj 1 j)), .inl (0, 20, .inl z0), .inl (2, 20, .inr (.inl (fun _ => 0))), .inl (0, 50, .inl z0)] ∧ nc = 4 ∧ ns = 110, ?_, ?_⟩
  · rintro z ls st ws nc ns ⟨j, hj, rfl, rfl, rfl, rfl, rfl, rfl⟩
    refine And.intro (fun (c1 : 20 ≤ nI j) => ?_) (fun (c1 : ¬ 20 ≤ nI j) => ?_)
    · have : j = 20 := by
        have := (nI_leI (a := 20) (by decide) (by omega)).mp c1
        omega
      subst this
      exact And.intro rfl (And.intro (And.intro (by decide) (by decide)) hk)
    · have hj2 : j < 20 := Nat.lt_of_not_le (fun z : 20 ≤ j => c1 (nI_le z (by omega)))
      have e2 : (nI j).toNatClampNeg = j := nI_clamp (by omega)
      have i1 := zn_in hj2 (show 20 < 2 ^ 31 by decide)
      refine And.intro i1 ?_
      refine Exists.intro (20 - (j + 1)) (And.intro (by show 20 - (j + 1) < 20 - j; omega) ⟨j + 1, hj2, rfl, by rw [← nI_1]; rfl, rfl, ?_, rfl, rfl⟩)
      have e3 : upd (zj 1 j) (nI j).toNatClampNeg 1 = zj 1 (j + 1) := by rw [e2]; exact zj_s
      rw [← e3]
      rfl
  · refine (And.intro (And.intro rfl (And.intro rfl (And.intro (by decide) (And.intro (by decide) (And.intro rfl (by decide)))))) ?_)
    refine (And.intro (And.intro rfl (And.intro rfl (And.intro (by decide) (And.intro (by decide) (And.intro rfl (by decide)))))) ?_)
    refine (And.intro (And.intro rfl (And.intro rfl (And.intro (by decide) (And.intro (by decide) (And.intro rfl (by decide)))))) ?_)
    refine (And.intro (And.intro rfl (And.intro rfl (And.intro (by decide) (And.intro (by decide) (And.intro rfl (by decide)))))) ?_)
    exact Exists.intro 20 (And.intro trivial ⟨0, by decide, rfl, rfl, rfl, by rw [zj_0]; rfl, rfl, rfl⟩)
theorem recv_Cw_init : ∀ As ws k x, pt_Cw_init As ws k x → (∃ q As', As = .ref q :: As') ∧ pt_Cw_init As ws k (fun _ _ => False) := by
  rintro As ws k x ⟨rfl, rfl, hk⟩
  exact ⟨⟨_, _, rfl⟩, rfl, rfl, hk⟩
def w15 : List va_E := [k8 (.ref 1) (.ref 3) (.ref 4) (.ref 10) .null .null .null 0, .inr (1, [.ref 2, .int 0]), .inl (0, 300, .inl z0), .inr (2, [.ref 1, .int 0]), .inr (3, [.ref 5, .ref 6, .ref 7, .ref 8, .ref 9]), .inl (0, 50, .inl z0), .inl (0, 50, .inl z0), .inl (0, 50, .inl (zj (-1) 50)), .inl (0, 50, .inl (zj (-1) 50)), .inl (0, 500, .inl z0), .inr (4, [.ref 11, .ref 12, .ref 13, .ref 14]), .inl (0, 20, .inl (zj 1 20)), .inl (0, 20, .inl z0), .inl (2, 20, .inr (.inl (fun _ => 0))), .inl (0, 50, .inl z0)]
def pt_Gr_init : zz_PT := fun As ws k _ => As = [.ref 15, .ref 4, .ref 10] ∧ ws = w15 ++ [.inr (5, [.null, .null, .null, .null, .int 0])] ∧ k none (w15 ++ [.inr (5, [.ref 4, .ref 10, .ref 16, .ref 17, .int 0]), .inl (0, 50, .inl z0), .inl (0, 50, .inl z0)])
set_option maxHeartbeats 4000000 in
set_option maxRecDepth 100000 in
theorem m_Gr_init (l : Launch) : zz_M zz_CL l y_Gr_init (Cond.code y_Gr_init c_Gr_init 3 none :: zz_big) (zz_rm 1 20 3 106) (3, true, 2, 100, pt_Gr_init) := by
  refine zz_M_of (HOST := "CrewRules") (L := []) (sw := sw_Gr_init) (pg := pg_Gr_init) (th := th_Gr_init) (ini := true) (by decide +kernel) zz_static (fun _ => rfl) (by decide) (by decide) ok_Gr_init zz_nil (fun pc E h => (nomatch h)) (zz_VC0 80 ?_)
  rintro As ws k x ⟨rfl, rfl, hk⟩
  refine ⟨Nat.le_of_ble_eq_true rfl, ?_⟩
  refine (And.intro (And.intro rfl (And.intro rfl (And.intro (by decide) (And.intro (by decide) (And.intro rfl (by decide)))))) ?_)
  refine (And.intro (And.intro rfl (And.intro rfl (And.intro (by decide) (And.intro (by decide) (And.intro rfl (by decide)))))) ?_)
  exact And.intro rfl (And.intro (And.intro (by decide) (by decide)) hk)
theorem recv_Gr_init : ∀ As ws k x, pt_Gr_init As ws k x → (∃ q As', As = .ref q :: As') ∧ pt_Gr_init As ws k (fun _ _ => False) := by
  rintro As ws k x ⟨rfl, rfl, hk⟩
  exact ⟨⟨_, _, rfl⟩, rfl, rfl, hk⟩
