def R_law : String := "CrewRulesLaw"
def lw_P (b : Addr) (xs : List Int32) (args : Array Value) (s : State) : Prop := args = #[.ref b] ∧ s.IntsAt b xs ∧ xs.length ≤ 2560 ∧ (Jvm.Cond.and given_1 narrow_1).before args s = true
def lw_Q (_ : Array Value) (s : State) (o : Outcome) (t : State) : Prop := o = .returned (some (.int 1)) ∧ Framed s o t [] 1112 12952
def lw_Z (below : List Frame) (a : Array Value) (s : State) : State → Prop := fun t => ∃ o, t.status = .running ∧ Ended t below o ∧ lw_Q a s o t
/-- the law's own end, with 1 on the stack, nothing written that was there before, its room as the claim has it -/
theorem lw_ret {p : Program} {l : Launch} {e : Env} {s : State} {m : MethodId} {below : List Frame} {meth : Method} {c : Code} {b : Nat} (hx : p.tables.exec = Jvm.exec) (hb : c.code = code) (hr : meth.sig.returnType = ret) (hlocks : meth.locks = false) {pc : Nat} {H : Heap} {ls : Array Slot} (hdg : decode code pc = .ok (.ireturn, 1)) : W p l e room_1 s m #[Value.ref b] below meth c H [] 1112 12952 (lw_Z below #[Value.ref b] s) (F0 m pc ls [.int 1]) := by
  intro T hT X
  obtain ⟨fs, hret, hrun, hended, hW, hframe⟩ := X.leave (v := some (.int 1)) (hlocks := hlocks) (fun h => by rw [hr] at h; cases h)
  have hmeth' : T.vm.method? m = some meth := X.method'
  refine ⟨T.setFrames fs, ?_, .returned (some (.int 1)), hrun, hended, rfl, ⟨_, rfl⟩, hW, hframe⟩
  jvm_step X.here [X.here.top, hx, hb, hdg, hmeth', hr, ret, narrow_b1]
  (try refine ⟨rfl, ?_⟩); (try refine ⟨rfl, ?_⟩)
  first | (intro acts; rw [hret _ acts rfl rfl rfl]) | rw [hret _ _ rfl rfl rfl]
  exact Steps.refl _
/-- what holds at the law's entry: the machine, the code, the tables' words (any of lw_tbl by 'hts w (by decide +kernel)'), the script of L ints xs at the cell b, what the Statement gives of the start (any of its parts by flat_of_before) -/
def lw_At (p : Program) (s : State) (m : MethodId) (meth : Method) (c : Code) (b L : Nat) (xs : Nat → Int32) : Prop :=
  p.tables.exec = Jvm.exec ∧ c.code = code ∧ meth.sig.returnType = ret ∧ c.maxLocals = 7 ∧ s.vm.findClass R_law = some m.cls ∧ (∀ w ∈ lw_tbl, w.before #[Value.ref b] s = true) ∧ va_X b L xs s s.heap ∧ b < s.heap.size ∧ meth.locks = false ∧ (Jvm.Cond.and given_1 narrow_1).before #[Value.ref b] s = true
/-! ===== what the law starts with ===== -/
theorem zz_cv_le {n k : Nat} (h : n ≤ k) {v : Value} (hv : zz_cv n v = true) : zz_cv k v = true := by
  cases v with
  | ref j =>
    have : j < n := Nat.blt_eq.mp hv
    exact Nat.blt_eq.mpr (Nat.lt_of_lt_of_le this h)
  | _ => rfl
theorem zz_ce_le {n k : Nat} (h : n ≤ k) {ws : List va_E} (hw : ws.all (zz_ce n) = true) : ws.all (zz_ce k) = true := by
  rw [List.all_eq_true] at hw ⊢
  intro x hx
  have := hw x hx
  cases x with
  | inl _ => rfl
  | inr q =>
    show q.2.all (zz_cv k) = true
    have : q.2.all (zz_cv n) = true := this
    rw [List.all_eq_true] at this ⊢
    exact fun v hv => zz_cv_le h (this v hv)
theorem zz_C_obj {cT : Nat → ClassId} {ad : Nat → Nat} {ws : List va_E} {n q ci N : Nat} (hn : ws.length = n) (hc : ws.all (zz_ce n) = true) : zz_C cT (va_up ad n q) (ws ++ [.inr (ci, zz_df zz_tF ci N)]) = zz_C cT ad ws ++ [(q, .inr (ci, zz_df zz_tF ci N))] := by
  subst hn
  rw [zz_C_new hc]
  show zz_C cT ad ws ++ [(q, .inr (ci, (zz_df zz_tF ci N).map (zz_V (va_up ad ws.length q))))] = _
  rw [zz_df_V]
theorem zz_C_cell {cT : Nat → ClassId} {ad : Nat → Nat} {ws : List va_E} {n q a : Nat} {x : vp_A} (hn : ws.length = n) (hc : ws.all (zz_ce n) = true) : zz_C cT (va_up ad n q) (ws ++ [.inl (a, x)]) = zz_C cT ad ws ++ [(q, .inl (cT a, x))] := by
  subst hn
  rw [zz_C_new hc]
  rfl
theorem zz_arr {args : Array Value} {s : State} {ty : FieldType} (hn : ∀ C, ¬ ty = .object C) (h : (Cond.arrayClass ty).before args s = true) : ∃ cA : ClassId, ArrOfT s cA ty ∧ va_RA s cA ty := by
  obtain ⟨cA, kA, comp, h1, h2, h3⟩ := Cond.arrayClass_spec h
  refine ⟨cA, fun n z => ⟨fun k hk => (by cases hk), kA, h2, comp, h3⟩, ?_⟩
  cases ty with
  | object C => exact absurd rfl (hn C)
  | _ => exact h1
theorem law_tab {args : Array Value} {s : State} (hts : ∀ w ∈ lw_tbl, w.before args s = true) : ∀ w ∈ zz_al, w.before args s = true := fun w hw =>
  (List.mem_append.mp hw).elim (fun h => hts w (List.mem_filter.mp h).1) (fun h => hts w (List.mem_filter.mp h).1)
theorem law_nc {args : Array Value} {s : State} (h : (Jvm.Cond.and given_1 narrow_1).before args s = true) : zz_nc s := by
  have hs := flat_of_before _ h
  have H : ∀ C T : String, Cond.not (.castable C T) ∈ flatC (Jvm.Cond.and given_1 narrow_1) → va_Nc C T s := fun C T hm => va_Nc.of (hs _ hm)
  intro C hC T hT hCT
  simp only [zz_ex4, List.mem_cons, List.not_mem_nil, or_false] at hC hT
  rcases hC with rfl | rfl | rfl | rfl <;> rcases hT with rfl | rfl | rfl | rfl <;> first | exact absurd rfl hCT | exact H _ _ (by decide +kernel)
theorem law_sx {args : Array Value} {s : State} (hts : ∀ w ∈ lw_tbl, w.before args s = true) (h : (Jvm.Cond.and given_1 narrow_1).before args s = true) : zz_sx (fun q : Nat => s.heap.size ≤ q) s := by
  have hs := flat_of_before _ h
  refine ⟨⟨?_, ?_⟩, fun w hw => ?_, fun q hq => ?_⟩
  · exact vx_Zqof (args := args) (hts _ (by decide +kernel)) (hts _ (by decide +kernel)) (hs _ (by decide +kernel)) (fun a ha => Nat.not_le.mpr ha)
  · exact vx_Zqof (args := args) (hts _ (by decide +kernel)) (hts _ (by decide +kernel)) (hs _ (by decide +kernel)) (fun a ha => Nat.not_le.mpr ha)
  · obtain ⟨h1, h2⟩ := List.mem_filter.mp hw
    exact va_Nw.of (zz_nw_on h2) (hts w h1)
  · have K : ∀ (own : String) (k : Nat) (tx : String), Cond.stringRef own k tx ∈ lw_tbl → Cond.exactly (.string own k) "java/lang/String" ∈ flatC (Jvm.Cond.and given_1 narrow_1) → ∃ a, vk_R own k tx a s := fun own k tx m1 m2 => by
      obtain ⟨a, c, cell, kk, e1, -⟩ := Cond.exactly_spec (hs _ m2)
      have z := vk_R.of (A := args) (hts _ m1) e1
      exact ⟨a, z⟩
    simp only [zz_ss, List.mem_cons, List.not_mem_nil, or_false] at hq
    rcases hq with rfl | rfl | rfl | rfl | rfl | rfl | rfl | rfl | rfl | rfl | rfl | rfl | rfl | rfl | rfl | rfl | rfl <;> exact K _ _ _ (by decide +kernel) (by decide +kernel)
theorem law_K {args : Array Value} {s : State} (hts : ∀ w ∈ lw_tbl, w.before args s = true) : ∃ (D : va_G) (cT : Nat → ClassId), va_K D zz_CL (zz_ty cT) s := by
  have hta := law_tab hts
  obtain ⟨c0, i0, k0⟩ := u_known (C := "CrewRules") (T := F_Cr) (N := 8) (n := 8) hta zz_st_Cr.1 (hts (.instantiable "CrewRules" 8) (by decide +kernel))
  obtain ⟨c1, i1, k1⟩ := u_known (C := "CrewRules$Tape") (T := F_Ta) (N := 2) (n := 2) hta zz_st_Ta.1 (hts (.instantiable "CrewRules$Tape" 2) (by decide +kernel))
  obtain ⟨c2, i2, k2⟩ := u_known (C := "CrewRules$Parser") (T := F_Pa) (N := 2) (n := 2) hta zz_st_Pa.1 (hts (.instantiable "CrewRules$Parser" 2) (by decide +kernel))
  obtain ⟨c3, i3, k3⟩ := u_known (C := "CrewRules$People") (T := F_Pe) (N := 5) (n := 5) hta zz_st_Pe.1 (hts (.instantiable "CrewRules$People" 5) (by decide +kernel))
  obtain ⟨c4, i4, k4⟩ := u_known (C := "CrewRules$Crews") (T := F_Cw) (N := 4) (n := 4) hta zz_st_Cw.1 (hts (.instantiable "CrewRules$Crews" 4) (by decide +kernel))
  obtain ⟨c5, i5, k5⟩ := u_known (C := "CrewRules$Group") (T := F_Gr) (N := 5) (n := 5) hta zz_st_Gr.1 (hts (.instantiable "CrewRules$Group" 5) (by decide +kernel))
  obtain ⟨c6, i6, k6⟩ := u_known (C := "CrewRules$RuleBook") (T := F_Rb) (N := 15) (n := 15) hta zz_st_Rb.1 (hts (.instantiable "CrewRules$RuleBook" 15) (by decide +kernel))
  obtain ⟨c7, i7, k7⟩ := u_known (C := "CrewRulesModel") (T := F_Mo) (N := 29) (n := 29) hta zz_st_Mo.1 (hts (.instantiable "CrewRulesModel" 29) (by decide +kernel))
  obtain ⟨a0, r0, q0⟩ := zz_arr (ty := .int) (fun C z => by cases z) (hts (.arrayClass .int) (by decide +kernel))
  obtain ⟨a1, r1, q1⟩ := zz_arr (ty := .boolean) (fun C z => by cases z) (hts (.arrayClass .boolean) (by decide +kernel))
  obtain ⟨a2, r2, q2⟩ := zz_arr (ty := .long) (fun C z => by cases z) (hts (.arrayClass .long) (by decide +kernel))
  refine ⟨(fun k => match k with | 0 => c0 | 1 => c1 | 2 => c2 | 3 => c3 | 4 => c4 | 5 => c5 | 6 => c6 | _ => c7, fun k => match k with | 0 => i0 | 1 => i1 | 2 => i2 | 3 => i3 | 4 => i4 | 5 => i5 | 6 => i6 | _ => i7), fun k => match k with | 0 => a0 | 1 => a1 | _ => a2, ?_, ?_⟩
  · intro k q hq
    match k, hq with
    | 0, hq => cases hq; exact k0
    | 1, hq => cases hq; exact k1
    | 2, hq => cases hq; exact k2
    | 3, hq => cases hq; exact k3
    | 4, hq => cases hq; exact k4
    | 5, hq => cases hq; exact k5
    | 6, hq => cases hq; exact k6
    | 7, hq => cases hq; exact k7
    | k + 8, hq => cases hq
  · intro k q hq
    match k, hq with
    | 0, hq => cases hq; exact ⟨r0, q0⟩
    | 1, hq => cases hq; exact ⟨r1, q1⟩
    | 2, hq => cases hq; exact ⟨r2, q2⟩
    | k + 3, hq => cases hq
set_option maxHeartbeats 4000000 in
set_option maxRecDepth 100000 in
/-- the law's loop, from its head -/
theorem law_loop {p : Program} {e : Env} {s : State} {m : MethodId} {below : List Frame} {meth : Method} {c : Code} {l : Launch} (hl : l.stackTraces = false) {b L : Nat} {xs : Nat → Int32} (hL : L ≤ 2560) (C0 : lw_At p s m meth c b L xs) {D : va_G} {cT : Nat → ClassId} (hK : va_K D zz_CL (zz_ty cT) s) {ad : Nat → Nat} (had : ad 1000 = b)
    {n : Nat} {ls : List (Option Value)} {st : List Value} {ws : List va_E} {nc ns : Nat} (hI : iLaw L n ls st ws nc ns) :
    zz_G zz_CL p l e room_1 s m #[Value.ref b] below meth c (lw_Z below #[Value.ref b] s) D cT (fun q : Nat => s.heap.size ≤ q) 7 (fun a => a = ad) 23 ls st ws nc ns := by
  obtain ⟨hx, hb, hr, hml, hown, hts, hX0, hbl, hlocks, hgv⟩ := id C0
  have hta := law_tab hts
  have hsx := law_sx hts hgv
  have hnc := law_nc hgv
  have hX : zz_X zz_CL p room_1 s m #[Value.ref b] meth c D cT (fun q : Nat => s.heap.size ≤ q) 7 zz_al zz_tF "CrewRulesLaw" c_La_law false := ⟨hx, hb, hml, hown, hta, hK, fun _ h => h, fun h => (nomatch h), zz_static, by decide, by decide⟩
  have hev : ∀ q ∈ llLaw, zz_Cl zz_CL p l e room_1 s m #[Value.ref b] below meth c (lw_Z below #[Value.ref b] s) D cT (fun q : Nat => s.heap.size ≤ q) 7 c_La_law (zz_ik q.1 q.2.1) q.2.2 := by
    unfold llLaw
    exact (zz_cons (zz_Cl_SW hX hsx hnc (m_La_sign l hl) yw_La_sign ⟨rfl, rfl, by decide, by decide⟩ lk_La_72 ys_La_sign)
      (zz_cons (zz_Cl_SW hX hsx hnc (m_La_read l hl) yw_La_read ⟨rfl, rfl, by decide, by decide⟩ lk_La_81 ys_La_read)
      (zz_cons (zz_Cl_SW hX hsx hnc (m_La_person l hl) yw_La_person ⟨rfl, rfl, by decide, by decide⟩ lk_La_89 ys_La_person)
      (zz_cons (zz_Cl_SW hX hsx hnc (m_La_skill l hl) yw_La_skill ⟨rfl, rfl, by decide, by decide⟩ lk_La_93 ys_La_skill)
      (zz_cons (zz_Cl_SW hX hsx hnc (m_La_duty l hl) yw_La_duty ⟨rfl, rfl, by decide, by decide⟩ lk_La_96 ys_La_duty)
      (zz_cons (zz_Cl_SW hX hsx hnc (m_La_kind l hl) yw_La_kind ⟨rfl, rfl, by decide, by decide⟩ lk_La_99 ys_La_kind)
      (zz_cons (zz_Cl_SW hX hsx hnc (m_La_join l hl) yw_La_join ⟨rfl, rfl, by decide, by decide⟩ lk_La_103 ys_La_join)
      (zz_cons (zz_Cl_SW hX hsx hnc (m_La_leave l hl) yw_La_leave ⟨rfl, rfl, by decide, by decide⟩ lk_La_107 ys_La_leave)
      (zz_cons (zz_Cl_SW hX hsx hnc (m_La_verdict l hl) yw_La_verdict ⟨rfl, rfl, by decide, by decide⟩ lk_La_110 ys_La_verdict)
      (zz_cons (zz_Cl_SW hX hsx hnc (m_La_counts l hl) yw_La_counts ⟨rfl, rfl, by decide, by decide⟩ lk_La_113 ys_La_counts)
      (zz_cons (zz_Cl_SW hX hsx hnc (m_La_having l hl) yw_La_having ⟨rfl, rfl, by decide, by decide⟩ lk_La_117 ys_La_having)
      (zz_cons (zz_Cl_SW hX hsx hnc (m_La_leader l hl) yw_La_leader ⟨rfl, rfl, by decide, by decide⟩ lk_La_121 ys_La_leader)
      (zz_cons (zz_Cl_SW hX hsx hnc (m_La_never l hl) yw_La_never ⟨rfl, rfl, by decide, by decide⟩ lk_La_124 ys_La_never)
      (zz_cons (zz_Cl_SW hX hsx hnc (m_La_rule l hl) yw_La_rule ⟨rfl, rfl, by decide, by decide⟩ lk_La_127 ys_La_rule)
      (zz_cons ((zz_ev_V (m_Mo_sign l) yw_Mo_sign yv_Mo_sign lk_La_77 ⟨rfl, rfl, by decide, by decide⟩ (ci := 7) rfl recv_Mo_sign) p e s m _ below meth c _ D cT _ hX hsx)
      (zz_cons ((zz_ev_V (m_Mo_read l) yw_Mo_read yv_Mo_read lk_La_84 ⟨rfl, rfl, by decide, by decide⟩ (ci := 7) rfl recv_Mo_read) p e s m _ below meth c _ D cT _ hX hsx)
      (zz_cons ((zz_ev_V (m_Mo_place l) yw_Mo_place yv_Mo_place lk_La_88 ⟨rfl, rfl, by decide, by decide⟩ (ci := 7) rfl recv_Mo_place) p e s m _ below meth c _ D cT _ hX hsx)
      (zz_cons ((zz_ev_V (m_Mo_person l) yw_Mo_person yv_Mo_person lk_La_92 ⟨rfl, rfl, by decide, by decide⟩ (ci := 7) rfl recv_Mo_person) p e s m _ below meth c _ D cT _ hX hsx)
      (zz_cons ((zz_ev_V (m_Mo_skill l) yw_Mo_skill yv_Mo_skill lk_La_95 ⟨rfl, rfl, by decide, by decide⟩ (ci := 7) rfl recv_Mo_skill) p e s m _ below meth c _ D cT _ hX hsx)
      (zz_cons ((zz_ev_V (m_Mo_duty l) yw_Mo_duty yv_Mo_duty lk_La_98 ⟨rfl, rfl, by decide, by decide⟩ (ci := 7) rfl recv_Mo_duty) p e s m _ below meth c _ D cT _ hX hsx)
      (zz_cons ((zz_ev_V (m_Mo_kind l) yw_Mo_kind yv_Mo_kind lk_La_102 ⟨rfl, rfl, by decide, by decide⟩ (ci := 7) rfl recv_Mo_kind) p e s m _ below meth c _ D cT _ hX hsx)
      (zz_cons ((zz_ev_V (m_Mo_join l) yw_Mo_join yv_Mo_join lk_La_106 ⟨rfl, rfl, by decide, by decide⟩ (ci := 7) rfl recv_Mo_join) p e s m _ below meth c _ D cT _ hX hsx)
      (zz_cons ((zz_ev_V (m_Mo_leave l) yw_Mo_leave yv_Mo_leave lk_La_109 ⟨rfl, rfl, by decide, by decide⟩ (ci := 7) rfl recv_Mo_leave) p e s m _ below meth c _ D cT _ hX hsx)
      (zz_cons ((zz_ev_V (m_Mo_verdict l) yw_Mo_verdict yv_Mo_verdict lk_La_112 ⟨rfl, rfl, by decide, by decide⟩ (ci := 7) rfl recv_Mo_verdict) p e s m _ below meth c _ D cT _ hX hsx)
      (zz_cons ((zz_ev_V (m_Mo_counts l) yw_Mo_counts yv_Mo_counts lk_La_116 ⟨rfl, rfl, by decide, by decide⟩ (ci := 7) rfl recv_Mo_counts) p e s m _ below meth c _ D cT _ hX hsx)
      (zz_cons ((zz_ev_V (m_Mo_having l) yw_Mo_having yv_Mo_having lk_La_120 ⟨rfl, rfl, by decide, by decide⟩ (ci := 7) rfl recv_Mo_having) p e s m _ below meth c _ D cT _ hX hsx)
      (zz_cons ((zz_ev_V (m_Mo_leader l) yw_Mo_leader yv_Mo_leader lk_La_123 ⟨rfl, rfl, by decide, by decide⟩ (ci := 7) rfl recv_Mo_leader) p e s m _ below meth c _ D cT _ hX hsx)
      (zz_cons ((zz_ev_V (m_Mo_never l) yw_Mo_never yv_Mo_never lk_La_126 ⟨rfl, rfl, by decide, by decide⟩ (ci := 7) rfl recv_Mo_never) p e s m _ below meth c _ D cT _ hX hsx)
      (zz_cons ((zz_ev_V (m_Mo_rule l) yw_Mo_rule yv_Mo_rule lk_La_129 ⟨rfl, rfl, by decide, by decide⟩ (ci := 7) rfl recv_Mo_rule) p e s m _ below meth c _ D cT _ hX hsx)
      (zz_cons ((zz_ev_V (m_Mo_thrown l) yw_Mo_thrown yv_Mo_thrown lk_La_78 ⟨rfl, rfl, by decide, by decide⟩ (ci := 7) rfl recv_Mo_thrown) p e s m _ below meth c _ D cT _ hX hsx)
      (zz_cons ((zz_ev_V (m_Cr_place l) yw_Cr_place yv_Cr_place lk_La_85 ⟨rfl, rfl, by decide, by decide⟩ (ci := 0) rfl recv_Cr_place) p e s m _ below meth c _ D cT _ hX hsx)
      zz_nil)))))))))))))))))))))))))))))))
  have F : zz_F zz_CL p l e room_1 s m #[Value.ref b] below meth c (lw_Z below #[Value.ref b] s) D cT (fun q : Nat => s.heap.size ≤ q) 7 (fun a => a = ad) zz_al zz_tF "CrewRules" "CrewRulesLaw" c_La_law false none (some .boolean) (zz_tab llLaw) sw_La_law pg_La_law th_La_law (fun r _ nc ns => r = some (.int 1) ∧ nc ≤ 1112 ∧ ns ≤ 12952) (fun _ _ _ _ _ _ => False) := by
    refine ⟨hX, fun n ad1 ad2 hg => (nomatch hg), ?_, ⟨?_, ?_⟩, fun pc E ls ws nc ns h => h.elim, ok_La_law, fun pc E ls ws nc ns h => (nomatch h)⟩
    · intro idx zy
      exact ⟨fun h => hev _ (zz_tab_mem h), fun h => hev _ (zz_tab_mem h), fun h => hev _ (zz_tab_mem h)⟩
    · intro x ws1 nc1 ns1 pc ad1 H locs lsA hrt hret hd hag hP1 hD1 hS1
      obtain ⟨h1, h2, h3⟩ := hret
      cases h1
      exact va_forget (fun q hq => hS1.2.2 q hq) (W.widen h2 h3 (lw_ret hx hb hr hlocks hd))
    · intro ws1 nc1 ns1 pc ad1 H locs lsA hrt
      exact (nomatch hrt)
  have hs : zz_Sc s (fun q : Nat => s.heap.size ≤ q) ad b L xs := ⟨hX0, hbl, Nat.not_le.mpr hbl, had⟩
  refine zz_S.cuts F hs (cut := zz_c1 23 [true, true, true, true, true, false, false] (iLaw L)) (fuel := 130) ?_ ?_ (n + 1) n (Nat.lt_succ_self n) 23 [true, true, true, true, true, false, false] (iLaw L) rfl ls st ws nc ns hI
  · intro pc bm I h
    unfold zz_c1 at h
    cases hq : Nat.beq pc 23 with
    | true => rw [hq] at h; cases h; rfl
    | false => rw [hq] at h; cases h
  · intro pc bm I h
    unfold zz_c1 at h
    cases hq : Nat.beq pc 23 with
    | true =>
      rw [hq] at h
      have e1 := Nat.eq_of_beq_eq_true hq
      cases h
      subst e1
      exact law_step hL
    | false => rw [hq] at h; cases h
