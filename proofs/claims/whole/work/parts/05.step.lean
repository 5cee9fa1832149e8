section ZT
variable {CL : List vw_C} {p : Program} {l : Launch} {e : Env} {R : Room} {s : State} {m : MethodId} {args : Array Value} {below : List Frame} {meth : Method} {c : Code} {Q : State → Prop} {D : va_G} {cT : Nat → ClassId} {A : Nat → Prop} {nL : Nat} {ag : (Nat → Nat) → Prop}
variable {BIG : List Cond} {tF : Nat → Nat → FieldType} {HOST own : String} {cc : ByteArray} {ini : Bool} {gr : Option Nat} {rt : Option FieldType} {cl : Nat → Nat → Option zz_Y} {sw : Nat → List (Int32 × Nat)}
variable {k : zz_K} {ret : Option Value → List va_E → Nat → Nat → Prop} {xx : Nat → String → List (Option Value) → List va_E → Nat → Nat → Prop} {pc : Nat} {ls : List (Option Value)} {st : List Value} {ws : List va_E} {nc ns : Nat} {v : Int32} {w : Int64} {a b : Nat}
theorem zz_df_V (ad : Nat → Nat) (ci N : Nat) : (zz_df tF ci N).map (zz_V ad) = zz_df tF ci N := by
  unfold zz_df
  rw [List.map_map]
  refine List.map_congr_left fun j _ => ?_
  show zz_V ad (defaultValue (tF ci j)) = defaultValue (tF ci j)
  cases tF ci j <;> rfl
theorem zz_df_at {ci N j : Nat} (hj : j < N) : defaultValue (tF ci j) = vp_V (zz_df tF ci N) j := by
  simp [vp_V, zz_df, hj]
theorem zz_up_lt (ad : Nat → Nat) (n q : Nat) : ∀ j, j < n → va_up ad n q j = ad j := fun j hj => va_up_ne _ _ (by omega)
theorem zz_cl_parts {n : Nat} {ls : List (Option Value)} {st : List Value} {ws : List va_E} (h : zz_cl n ls st ws = true) : ls.all (zz_co n) = true ∧ st.all (zz_cv n) = true ∧ ws.all (zz_ce n) = true := by
  unfold zz_cl at h
  obtain ⟨h1, h2⟩ := Bool.and_eq_true_iff.mp h
  obtain ⟨h2, h3⟩ := Bool.and_eq_true_iff.mp h2
  exact ⟨h1, h2, h3⟩
/-- the new place's cells -/
theorem zz_C_new {ad : Nat → Nat} {ws : List va_E} {e0 : va_E} {q : Nat} (hc : ws.all (zz_ce ws.length) = true) : zz_C cT (va_up ad ws.length q) (ws ++ [e0]) = zz_C cT ad ws ++ [(q, zz_E cT (va_up ad ws.length q) e0)] := by
  rw [zz_C_push, zz_C_eq (zz_up_lt ad ws.length q) (Nat.le_refl _) hc, va_up_self]

theorem zz_i_new (hX : zz_X CL p R s m args meth c D cT A nL BIG tF own cc ini) (hgr : ∀ (n : Nat) (ad ad1 : Nat → Nat), zz_gr gr n = true → (∀ j, j < n → ad1 j = ad j) → ag ad → ag ad1) {n : Nat} (hok : zz_ok CL BIG HOST own cc nL ini sw pc (.new n) v w a b = true)
    (hk : ∀ pc ls st ws nc ns, k pc ls st ws nc ns → zz_G CL p l e R s m args below meth c Q D cT A nL ag pc ls st ws nc ns)
    (h : zz_i tF R.cells R.slots gr rt cl sw k ret xx pc ls st ws nc ns (.new n) v w a b) : zz_G CL p l e R s m args below meth c Q D cT A nL ag pc ls st ws nc ns := by
  obtain ⟨hx, hb, hml, hown, hts, hK, hA, hin, hSt, hRf, hRl⟩ := hX
  intro ad H locs lsA hag hP hD hS hL

  have hok := Bool.and_eq_true_iff.mp hok
  have hd := of_decide_eq_true hok.1
  have h2 := hok.2
  split at h2
  · next C T N hc =>
    obtain ⟨g1, g2⟩ := Bool.and_eq_true_iff.mp h2
    obtain ⟨g2, g3⟩ := Bool.and_eq_true_iff.mp g2
    obtain ⟨g3, g4⟩ := Bool.and_eq_true_iff.mp g3
    have g1 : N = b := of_decide_eq_true g1
    subst g1
    obtain ⟨hin2, hty, hnm⟩ := hSt a _ hc
    dsimp only [zz_i] at h
    obtain ⟨⟨q1, q2, q3, q4⟩, h⟩ := h
    obtain ⟨c1, c2, c3⟩ := zz_cl_parts q2
    refine va_new hx hb hts hin2 (tF a) hty hown (hts _ (of_decide_eq_true g2)) (hts _ (of_decide_eq_true g3)) (hts _ (of_decide_eq_true g4)) hK hP hD hS hA hc (fs := zz_df tF a N) (fun j hj => zz_df_at hj) q3 q4 hd (fun q H1 hP1 hD1 hS1 => ?_)
    have e1 : zz_C cT (va_up ad ws.length q) (ws ++ [.inr (a, zz_df tF a N)]) = zz_C cT ad ws ++ [(q, .inr (a, zz_df tF a N))] := by
      rw [zz_C_new c3]
      show zz_C cT ad ws ++ [(q, .inr (a, (zz_df tF a N).map (zz_V (va_up ad ws.length q))))] = _
      rw [zz_df_V]
    have key := hk _ _ _ _ _ _ h (va_up ad ws.length q) H1 locs lsA (hgr _ _ _ q1 (zz_up_lt ad ws.length q) hag) (by rw [e1]; exact hP1) (by rw [e1]; exact hD1) hS1 (hL.eq (zz_up_lt ad ws.length q) c1)
    have e2 : ((Value.ref ws.length :: st).map (zz_V (va_up ad ws.length q))) = .ref q :: st.map (zz_V ad) := by
      rw [List.map_cons, zz_st_eq (zz_up_lt ad ws.length q) c2]
      show Value.ref (va_up ad ws.length q ws.length) :: _ = _
      rw [va_up_self]
    rw [e2] at key
    exact key
  · cases h2

theorem zz_i_newarray (hX : zz_X CL p R s m args meth c D cT A nL BIG tF own cc ini) (hgr : ∀ (n : Nat) (ad ad1 : Nat → Nat), zz_gr gr n = true → (∀ j, j < n → ad1 j = ad j) → ag ad → ag ad1) {t : ArrayType} (hok : zz_ok CL BIG HOST own cc nL ini sw pc (.newarray t) v w a b = true)
    (hk : ∀ pc ls st ws nc ns, k pc ls st ws nc ns → zz_G CL p l e R s m args below meth c Q D cT A nL ag pc ls st ws nc ns)
    (h : zz_i tF R.cells R.slots gr rt cl sw k ret xx pc ls st ws nc ns (.newarray t) v w a b) : zz_G CL p l e R s m args below meth c Q D cT A nL ag pc ls st ws nc ns := by
  obtain ⟨hx, hb, hml, hown, hts, hK, hA, hin, hSt, hRf, hRl⟩ := hX
  intro ad H locs lsA hag hP hD hS hL

  have hok := Bool.and_eq_true_iff.mp hok
  have hd := of_decide_eq_true hok.1
  have h2 := of_decide_eq_true hok.2
  dsimp only [zz_i] at h
  split at h
  · next x r =>
    have hsm : ∀ {N : Nat}, N ≤ 65536 → x = nI N → ¬ x < 0 ∧ x.toNatClampNeg = N := fun {N} hN e => by
      subst e
      exact ⟨nI_pos (by omega), nI_clamp (by omega)⟩
    split at h
    · obtain ⟨⟨q1, q2, q3, q4, q5, q6⟩, h⟩ := h
      obtain ⟨c1, c2, c3⟩ := zz_cl_parts q2
      obtain ⟨n1, n2⟩ := hsm q6 q5
      refine va_newa hx hb (hts _ h2) (ty := .int) rfl hK hP hD hS hA (N' := a) (a0 := (a, .inl (fun _ => 0))) (fun _ => rfl) n1 n2 (by show a * 4 ≤ 536870912; omega) q3 q4 hd (fun q cA H1 hK1 hP1 hD1 hS1 => ?_)
      have hcA : cA = cT 0 := by
        have z1 : s.vm.findClass ("[" ++ (FieldType.int).toString) = some cA := (hK1.2 3 (cA, .int) rfl).2
        have z2 : s.vm.findClass ("[" ++ (FieldType.int).toString) = some (cT 0) := (hK.2 0 (cT 0, .int) rfl).2
        exact Option.some.inj (z1.symm.trans z2)
      subst hcA
      have e1 : zz_C cT (va_up ad ws.length q) (ws ++ [.inl (0, a, .inl (fun _ => 0))]) = zz_C cT ad ws ++ [(q, .inl (cT 0, a, .inl (fun _ => 0)))] := zz_C_new c3
      have key := hk _ _ _ _ _ _ h (va_up ad ws.length q) H1 locs lsA (hgr _ _ _ q1 (zz_up_lt ad ws.length q) hag) (by rw [e1]; exact hP1) (by rw [e1]; exact hD1) hS1 (hL.eq (zz_up_lt ad ws.length q) c1)
      have e2 : ((Value.ref ws.length :: r).map (zz_V (va_up ad ws.length q))) = .ref q :: r.map (zz_V ad) := by
        rw [List.map_cons, zz_st_eq (zz_up_lt ad ws.length q) c2]
        show Value.ref (va_up ad ws.length q ws.length) :: _ = _
        rw [va_up_self]
      rw [e2] at key
      exact key
    · obtain ⟨⟨q1, q2, q3, q4, q5, q6⟩, h⟩ := h
      obtain ⟨c1, c2, c3⟩ := zz_cl_parts q2
      obtain ⟨n1, n2⟩ := hsm q6 q5
      refine va_newa hx hb (hts _ h2) (ty := .boolean) rfl hK hP hD hS hA (N' := a) (a0 := (a, .inl (fun _ => 0))) (fun _ => rfl) n1 n2 (by show a * 1 ≤ 536870912; omega) q3 q4 hd (fun q cA H1 hK1 hP1 hD1 hS1 => ?_)
      have hcA : cA = cT 1 := by
        have z1 : s.vm.findClass ("[" ++ (FieldType.boolean).toString) = some cA := (hK1.2 3 (cA, .boolean) rfl).2
        have z2 : s.vm.findClass ("[" ++ (FieldType.boolean).toString) = some (cT 1) := (hK.2 1 (cT 1, .boolean) rfl).2
        exact Option.some.inj (z1.symm.trans z2)
      subst hcA
      have e1 : zz_C cT (va_up ad ws.length q) (ws ++ [.inl (1, a, .inl (fun _ => 0))]) = zz_C cT ad ws ++ [(q, .inl (cT 1, a, .inl (fun _ => 0)))] := zz_C_new c3
      have key := hk _ _ _ _ _ _ h (va_up ad ws.length q) H1 locs lsA (hgr _ _ _ q1 (zz_up_lt ad ws.length q) hag) (by rw [e1]; exact hP1) (by rw [e1]; exact hD1) hS1 (hL.eq (zz_up_lt ad ws.length q) c1)
      have e2 : ((Value.ref ws.length :: r).map (zz_V (va_up ad ws.length q))) = .ref q :: r.map (zz_V ad) := by
        rw [List.map_cons, zz_st_eq (zz_up_lt ad ws.length q) c2]
        show Value.ref (va_up ad ws.length q ws.length) :: _ = _
        rw [va_up_self]
      rw [e2] at key
      exact key
    · obtain ⟨⟨q1, q2, q3, q4, q5, q6⟩, h⟩ := h
      obtain ⟨c1, c2, c3⟩ := zz_cl_parts q2
      obtain ⟨n1, n2⟩ := hsm q6 q5
      refine va_newa hx hb (hts _ h2) (ty := .long) rfl hK hP hD hS hA (N' := a) (a0 := (a, .inr (.inl (fun _ => 0)))) (fun _ => rfl) n1 n2 (by show a * 8 ≤ 536870912; omega) q3 q4 hd (fun q cA H1 hK1 hP1 hD1 hS1 => ?_)
      have hcA : cA = cT 2 := by
        have z1 : s.vm.findClass ("[" ++ (FieldType.long).toString) = some cA := (hK1.2 3 (cA, .long) rfl).2
        have z2 : s.vm.findClass ("[" ++ (FieldType.long).toString) = some (cT 2) := (hK.2 2 (cT 2, .long) rfl).2
        exact Option.some.inj (z1.symm.trans z2)
      subst hcA
      have e1 : zz_C cT (va_up ad ws.length q) (ws ++ [.inl (2, a, .inr (.inl (fun _ => 0)))]) = zz_C cT ad ws ++ [(q, .inl (cT 2, a, .inr (.inl (fun _ => 0))))] := zz_C_new c3
      have key := hk _ _ _ _ _ _ h (va_up ad ws.length q) H1 locs lsA (hgr _ _ _ q1 (zz_up_lt ad ws.length q) hag) (by rw [e1]; exact hP1) (by rw [e1]; exact hD1) hS1 (hL.eq (zz_up_lt ad ws.length q) c1)
      have e2 : ((Value.ref ws.length :: r).map (zz_V (va_up ad ws.length q))) = .ref q :: r.map (zz_V ad) := by
        rw [List.map_cons, zz_st_eq (zz_up_lt ad ws.length q) c2]
        show Value.ref (va_up ad ws.length q ws.length) :: _ = _
        rw [va_up_self]
      rw [e2] at key
      exact key
    · exact h.elim
  · exact h.elim

theorem zz_toList (f : Value → Value) (r : Option Value) : (r.toList).map f = (r.map f).toList := by cases r <;> rfl
/-- a call, whichever -/
theorem zz_call (hgr : ∀ (n : Nat) (ad ad1 : Nat → Nat), zz_gr gr n = true → (∀ j, j < n → ad1 j = ad j) → ag ad → ag ad1)
    (hk : ∀ pc ls st ws nc ns, k pc ls st ws nc ns → zz_G CL p l e R s m args below meth c Q D cT A nL ag pc ls st ws nc ns)
    (hxx : ∀ pc E ls ws nc ns, xx pc E ls ws nc ns → zz_H CL p l e R s m args below meth c Q D cT A nL ag pc E ls ws nc ns)
    {ins : Instr} {n mc ms : Nat} {g : Bool} {pt : zz_PT} (hd : decode cc pc = .ok (ins, 3)) (hC : zz_Cl CL p l e R s m args below meth c Q D cT A nL cc ins (n, g, mc, ms, pt))
    (h : (Nat.ble n st.length = true ∧ Nat.ble ((st.drop n).map (fun v => v.category)).sum 8 = true ∧ (bif g then zz_gr gr ws.length && zz_cl ws.length ls (st.drop n) [] else true) = true ∧ nc + (mc + 1) ≤ R.cells ∧ ns + (ms + 6) ≤ R.slots) ∧
          pt (st.take n).reverse ws (fun r ws' => k (pc + 3) ls (r.toList ++ st.drop n) ws' (nc + mc) (ns + ms)) (fun E ws' => xx pc E ls ws' (nc + (mc + 1)) (ns + (ms + 6)))) :
    zz_G CL p l e R s m args below meth c Q D cT A nL ag pc ls st ws nc ns := by
  intro ad H locs lsA hag hP hD hS hL
  obtain ⟨⟨h1, h2, h3, h4, h5⟩, h6⟩ := h
  have e0 : ((st.take n).reverse.reverse ++ st.drop n) = st := by rw [List.reverse_reverse, List.take_append_drop]
  have hlen : (st.take n).reverse.length = n := by
    rw [List.length_reverse, List.length_take]
    exact Nat.min_eq_left (Nat.le_of_ble_eq_true h1)
  have key := hC pc ls (st.take n).reverse (st.drop n) ws nc ns ad H locs lsA _ _ hd hlen (Nat.le_of_ble_eq_true h2) h4 h5 hP hD hS hL.2.1 h6
    (fun r ws' ad' H' locs' hk1 hg1 hg2 hP1 hD1 hS1 => by
      have hk2 := hk _ _ _ _ _ _ hk1
      have hL1 : ag ad' ∧ zz_L lsA nL ad' ls ∧ (st.drop n).map (zz_V ad') = (st.drop n).map (zz_V ad) := by
        cases g with
        | false =>
          have e1 := hg1 rfl
          subst e1
          exact ⟨hag, hL, rfl⟩
        | true =>
          obtain ⟨z1, z2⟩ := Bool.and_eq_true_iff.mp h3
          obtain ⟨c1, c2, c3⟩ := zz_cl_parts z2
          exact ⟨hgr _ _ _ z1 hg2 hag, hL.eq hg2 c1, zz_st_eq hg2 c2⟩
      have key := hk2 ad' H' locs' lsA hL1.1 hP1 hD1 hS1 hL1.2.1
      rw [List.map_append, zz_toList, hL1.2.2] at key
      exact key)
    (fun E ws' H' locs' q ce hx1 hP1 hD1 hS1 h7 h8 h9 => hxx _ _ _ _ _ _ hx1 ad H' locs' lsA _ q ce hag hP1 hD1 hS1 hL h7 h8 h9)
  rw [e0] at key
  exact key

/-- what a method's end owes -/
def zz_RI (CL : List vw_C) (p : Program) (l : Launch) (e : Env) (R : Room) (s : State) (m : MethodId) (args : Array Value) (below : List Frame) (meth : Method) (c : Code) (Q : State → Prop) (D : va_G) (cT : Nat → ClassId) (A : Nat → Prop) (ag : (Nat → Nat) → Prop) (cc : ByteArray) (rt : Option FieldType) (ret : Option Value → List va_E → Nat → Nat → Prop) : Prop :=
  (∀ (x : Int32) (ws : List va_E) (nc ns pc : Nat) (ad : Nat → Nat) (H : Heap) (locs : List Loc) (lsA : Array Slot), zz_rt rt x → ret (some (.int x)) ws nc ns → decode cc pc = .ok (.ireturn, 1) → ag ad → va_P D CL (zz_C cT ad ws) H → va_D A (zz_C cT ad ws) → va_S A s.heap H locs → W p l e R s m args below meth c H locs nc ns Q (F0 m pc lsA [.int x])) ∧
  ∀ (ws : List va_E) (nc ns pc : Nat) (ad : Nat → Nat) (H : Heap) (locs : List Loc) (lsA : Array Slot), rt = none → ret none ws nc ns → decode cc pc = .ok (.return_, 1) → ag ad → va_P D CL (zz_C cT ad ws) H → va_D A (zz_C cT ad ws) → va_S A s.heap H locs → W p l e R s m args below meth c H locs nc ns Q (F0 m pc lsA [])
set_option maxHeartbeats 4000000 in
theorem zz_step (hX : zz_X CL p R s m args meth c D cT A nL BIG tF own cc ini)
    (hgr : ∀ (n : Nat) (ad ad1 : Nat → Nat), zz_gr gr n = true → (∀ j, j < n → ad1 j = ad j) → ag ad → ag ad1)
    (hcl : ∀ (idx : Nat) (y : zz_Y), (cl 0 idx = some y → zz_Cl CL p l e R s m args below meth c Q D cT A nL cc (.invokevirtual idx) y) ∧ (cl 1 idx = some y → zz_Cl CL p l e R s m args below meth c Q D cT A nL cc (.invokestatic idx) y) ∧ (cl 2 idx = some y → zz_Cl CL p l e R s m args below meth c Q D cT A nL cc (.invokespecial idx) y))
    (hret : zz_RI CL p l e R s m args below meth c Q D cT A ag cc rt ret)
    (hxx : ∀ pc E ls ws nc ns, xx pc E ls ws nc ns → zz_H CL p l e R s m args below meth c Q D cT A nL ag pc E ls ws nc ns)
    {i : Instr} (hok : zz_ok CL BIG HOST own cc nL ini sw pc i v w a b = true)
    (hk : ∀ pc ls st ws nc ns, k pc ls st ws nc ns → zz_G CL p l e R s m args below meth c Q D cT A nL ag pc ls st ws nc ns)
    (h : zz_i tF R.cells R.slots gr rt cl sw k ret xx pc ls st ws nc ns i v w a b) : zz_G CL p l e R s m args below meth c Q D cT A nL ag pc ls st ws nc ns := by
  cases i with
  | iconst _ => exact zz_i_iconst hX hok hk h
  | bipush _ => exact zz_i_bipush hX hok hk h
  | sipush _ => exact zz_i_sipush hX hok hk h
  | lconst _ => exact zz_i_lconst hX hok hk h
  | ldc _ => exact zz_i_ldc hX hok hk h
  | ldc_w _ => exact zz_i_ldc_w hX hok hk h
  | ldc2_w _ => exact zz_i_ldc2_w hX hok hk h
  | iload_n _ => exact zz_i_iload_n hX hok hk h
  | iload _ => exact zz_i_iload hX hok hk h
  | lload_n _ => exact zz_i_lload_n hX hok hk h
  | lload _ => exact zz_i_lload hX hok hk h
  | aload_n _ => exact zz_i_aload_n hX hok hk h
  | aload _ => exact zz_i_aload hX hok hk h
  | istore_n _ => exact zz_i_istore_n hX hok hk h
  | istore _ => exact zz_i_istore hX hok hk h
  | astore_n _ => exact zz_i_astore_n hX hok hk h
  | astore _ => exact zz_i_astore hX hok hk h
  | lstore_n _ => exact zz_i_lstore_n hX hok hk h
  | lstore _ => exact zz_i_lstore hX hok hk h
  | iinc _ _ => exact zz_i_iinc hX hok hk h
  | iadd => exact zz_i_iadd hX hok hk h
  | isub => exact zz_i_isub hX hok hk h
  | imul => exact zz_i_imul hX hok hk h
  | iand => exact zz_i_iand hX hok hk h
  | ior => exact zz_i_ior hX hok hk h
  | ixor => exact zz_i_ixor hX hok hk h
  | ishl => exact zz_i_ishl hX hok hk h
  | ishr => exact zz_i_ishr hX hok hk h
  | ladd => exact zz_i_ladd hX hok hk h
  | lsub => exact zz_i_lsub hX hok hk h
  | land => exact zz_i_land hX hok hk h
  | lor => exact zz_i_lor hX hok hk h
  | lxor => exact zz_i_lxor hX hok hk h
  | lshl => exact zz_i_lshl hX hok hk h
  | lshr => exact zz_i_lshr hX hok hk h
  | lushr => exact zz_i_lushr hX hok hk h
  | iushr => exact zz_i_iushr hX hok hk h
  | idiv => exact zz_i_idiv hX hok hk h
  | irem => exact zz_i_irem hX hok hk h
  | ineg => exact zz_i_ineg hX hok hk h
  | i2l => exact zz_i_i2l hX hok hk h
  | l2i => exact zz_i_l2i hX hok hk h
  | lcmp => exact zz_i_lcmp hX hok hk h
  | dup => exact zz_i_dup hX hok hk h
  | pop => exact zz_i_pop hX hok hk h
  | dup_x1 => exact zz_i_dup_x1 hX hok hk h
  | dup_x2 => exact zz_i_dup_x2 hX hok hk h
  | dup2 => exact zz_i_dup2 hX hok hk h
  | goto _ => exact zz_i_goto hX hok hk h
  | ifCond _ _ => exact zz_i_ifCond hX hok hk h
  | if_icmp _ _ => exact zz_i_if_icmp hX hok hk h
  | getfield _ => exact zz_i_getfield hX hok hk h
  | putfield _ => exact zz_i_putfield hX hok hk h
  | iaload => exact zz_i_iaload hX hok hk h
  | baload => exact zz_i_baload hX hok hk h
  | laload => exact zz_i_laload hX hok hk h
  | iastore => exact zz_i_iastore hX hok hk h
  | bastore => exact zz_i_bastore hX hok hk h
  | lastore => exact zz_i_lastore hX hok hk h
  | arraylength => exact zz_i_arraylength hX hok hk h
  | new _ => exact zz_i_new hX hgr hok hk h
  | newarray _ => exact zz_i_newarray hX hgr hok hk h
  | ireturn =>
    intro ad H locs lsA hag hP hD hS hL
    have hd := of_decide_eq_true hok
    dsimp only [zz_i] at h
    split at h
    · next x => exact hret.1 x ws nc ns pc ad H locs lsA h.1 h.2 hd hag hP hD hS
    · exact h.elim
  | return_ =>
    intro ad H locs lsA hag hP hD hS hL
    have hd := of_decide_eq_true hok
    dsimp only [zz_i] at h
    split at h
    · exact hret.2 ws nc ns pc ad H locs lsA h.1 h.2 hd hag hP hD hS
    · exact h.elim
  | invokevirtual idx =>
    have hd := of_decide_eq_true hok
    dsimp only [zz_i] at h
    split at h
    · next n g mc ms pt hq => exact zz_call hgr hk hxx hd ((hcl idx _).1 hq) h
    · exact h.elim
  | invokestatic idx =>
    have hd := of_decide_eq_true hok
    dsimp only [zz_i] at h
    split at h
    · next n g mc ms pt hq => exact zz_call hgr hk hxx hd ((hcl idx _).2.1 hq) h
    · exact h.elim
  | invokespecial idx =>
    obtain ⟨hd, h2⟩ := Bool.and_eq_true_iff.mp hok
    have hd := of_decide_eq_true hd
    dsimp only [zz_i] at h
    cases ha : Nat.beq a 1 with
    | true =>
      rw [ha] at h h2
      dsimp only [cond_true] at h h2
      obtain ⟨g1, g2⟩ := Bool.and_eq_true_iff.mp h2
      obtain ⟨g2, g3⟩ := Bool.and_eq_true_iff.mp g2
      split at h
      · next q r =>
        obtain ⟨hx, hb, hml, hown, hts, hK, hA, hin, hSt, hRf, hRl⟩ := hX
        intro ad H locs lsA hag hP hD hS hL
        obtain ⟨hs8, h⟩ := zz_bif h
        have hs8 : ((r.map (zz_V ad)).map (fun v => v.category)).sum ≤ 8 := by
          rw [List.map_map]
          have e9 : ((fun v : Value => v.category) ∘ zz_V ad) = (fun v : Value => v.category) := funext fun v => zz_V_cat ad v
          rw [e9]
          exact Nat.le_of_ble_eq_true hs8
        have hs9 := lv_room (m := m) (pc := pc) (ls := lsA) (rest := (Value.ref q :: r).map (zz_V ad)) hs8
        refine W.objInit hx hb hown (hts _ (of_decide_eq_true g1)) (hts _ (of_decide_eq_true g2)) (hts _ (of_decide_eq_true g3)) (g := F0 m pc lsA ((Value.ref q :: r).map (zz_V ad))) rfl (by rw [hml]; exact hL.2.1) (a := ad q) (rest := r.map (zz_V ad)) rfl hd hRf (by omega) (hk _ _ _ _ _ _ h ad H locs lsA hag hP hD hS hL)
      · exact h.elim
    | false =>
      rw [ha] at h
      dsimp only [cond_false] at h
      split at h
      · next n g mc ms pt hq => exact zz_call hgr hk hxx hd ((hcl idx _).2.2 hq) h
      · exact h.elim
  | tableswitch d lo hi offs => exact zz_i_table hX hok hk h
  | lookupswitch d ps => exact zz_i_lookup hX hok hk h
  | _ => exact False.elim h

end ZT
