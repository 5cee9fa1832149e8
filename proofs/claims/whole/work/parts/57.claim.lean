set_option maxHeartbeats 1000000 in
set_option maxRecDepth 100000 in
/-- the law, from its entry -/
theorem whole_start {p : Program} {e : Env} {s : State} {m : MethodId} {below : List Frame} {meth : Method} {c : Code} (l : Launch) (hl : l.stackTraces = false) {b L : Nat} {xs : Nat → Int32} (hL : L ≤ 2560) (C0 : lw_At p s m meth c b L xs) : W p l e room_1 s m #[Value.ref b] below meth c s.heap [] 0 0 (lw_Z below #[Value.ref b] s) (entryFrame m ([Value.ref b] : List Value).toArray 7) := by
  obtain ⟨hx, hb, hr, hml, hown, hts, hX0, hbl, hlocks, hgv⟩ := id C0
  have hta := law_tab hts
  have hsx := law_sx hts hgv
  obtain ⟨D, cT, hK⟩ := law_K hts
  have hA : ∀ q : Nat, s.heap.size ≤ q → (fun q : Nat => s.heap.size ≤ q) q := fun _ h => h
  have hX : zz_X zz_CL p room_1 s m #[Value.ref b] meth c D cT (fun q : Nat => s.heap.size ≤ q) 7 zz_al zz_tF "CrewRulesLaw" c_La_law false := ⟨hx, hb, hml, hown, hta, hK, fun _ h => h, fun h => (nomatch h), zz_static, by decide, by decide⟩
  have hS : va_S (fun q : Nat => s.heap.size ≤ q) s.heap s.heap [] := va_S.rf
  have hP : va_P D zz_CL [] s.heap := fun k q h => by simp at h
  have hD : va_D (fun q : Nat => s.heap.size ≤ q) [] := ⟨fun i j p q h => by simp at h, fun k q h => by simp at h⟩
  have hls := lv_entry ([.ref b]) (n := 7) (Nat.le_of_ble_eq_true rfl)
  rw [lg_entry_eq]
  generalize (lg_sl ([.ref b]) ++ List.replicate (7 - (lg_sl ([.ref b])).length) Slot.unset).toArray = ls0 at hls ⊢
  have hls : lv_has ls0 7 [(0, .ref b)] := hls
  -- the class's object
  obtain ⟨hin0, hty0, -⟩ := zz_st_Cr
  refine va_new (ci := 0) (C := "CrewRules") (T := F_Cr) (N := 8) hx hb hta hin0 (zz_tF 0) hty0 hown (hts (.classLink "CrewRulesLaw" 8 "CrewRules") (by decide +kernel)) (hts (.instantiable "CrewRules" 8) (by decide +kernel)) (hts (.initialized "CrewRules") (by decide +kernel)) hK hP hD hS hA rfl (fs := zz_df zz_tF 0 8) (fun j hj => zz_df_at hj) (by decide) (by decide) (pc := 0) (by decide +kernel) (fun q0 H0 hP0 hD0 hS0 => ?_)
  refine lv_dup hx hb (pc := 3) (by decide +kernel) rfl ?_
  have e0 : zz_C cT (fun _ => q0) [k8 .null .null .null .null .null .null .null 0] = [] ++ [(q0, .inr (0, zz_df zz_tF 0 8))] := rfl
  refine ((zz_ev_I (m_Cr_init l) yw_Cr_init yi_Cr_init lk_La_66 rfl ⟨rfl, rfl, by decide, by decide⟩ recv_Cr_init) p e s m _ below meth c _ D cT _ hX hsx) 4 [] [.ref 0] [.ref 0] [k8 .null .null .null .null .null .null .null 0] 1 8 (fun _ => q0) H0 [] ls0 (fun r ws => r = none ∧ ∃ l1 l2 : qA, (∀ j, j < 10 → l1 j = -1) ∧ ws = gC (qNew l1 l2)) (fun _ _ => False) (by decide +kernel) rfl (by decide) (by decide) (by decide) (by rw [e0]; exact hP0) (by rw [e0]; exact hD0) hS0 hls.1 ⟨rfl, rfl, fun l1 l2 h1 _ => ⟨rfl, l1, l2, h1, rfl⟩⟩ ?_ (fun E ws' H' locs' q ce h => h.elim)
  rintro r ws1 ad1 H1 locs1 ⟨rfl, l1, l2, hl1, hw1⟩ - hag1 hP1 hD1 hS1
  have ha0 : ad1 0 = q0 := hag1 0 (by decide)
  have hlen1 : ws1.length = 46 := by rw [hw1]; rfl
  have hall0 : ws1.all (zz_ce 46) = true := by rw [hw1]; rfl
  refine lv_astore_n (k := 1) (i := 1) (x := q0) (nL := 7) (lv' := [(1, .ref q0), (0, .ref b)]) hx hb (pc := 7) (by decide +kernel) rfl hls (by decide) rfl (fun ls1 hls1 => ?_)
  -- the model's object
  obtain ⟨hin7, hty7, -⟩ := zz_st_Mo
  refine va_new (ci := 7) (C := "CrewRulesModel") (T := F_Mo) (N := 29) hx hb hta hin7 (zz_tF 7) hty7 hown (hts (.classLink "CrewRulesLaw" 67 "CrewRulesModel") (by decide +kernel)) (hts (.instantiable "CrewRulesModel" 29) (by decide +kernel)) (hts (.initialized "CrewRulesModel") (by decide +kernel)) hK hP1 hD1 hS1 hA rfl (fs := zz_df zz_tF 7 29) (fun j hj => zz_df_at hj) (by decide) (by decide) (pc := 8) (by decide +kernel) (fun q1 H2 hP2 hD2 hS2 => ?_)
  refine lv_dup hx hb (pc := 11) (by decide +kernel) rfl ?_
  have e2 := zz_C_obj (cT := cT) (ad := ad1) (q := q1) (ci := 7) (N := 29) hlen1 hall0
  have ea : va_up ad1 46 q1 46 = q1 := va_up_self _ _ _
  obtain ⟨f0, hf0⟩ : ∃ f, f = fC (qNew l1 l2) := ⟨_, rfl⟩
  have hp46 : p46 f0 = ws1 := by rw [hf0, fC_p46, hw1]
  have hcl : cl46 f0 := fun n hn => by rw [hp46]; exact zz_ce_le hn hall0
  have key := ((zz_ev_I (m_Mo_init l) yw_Mo_init yi_Mo_init lk_La_69 rfl ⟨rfl, rfl, by decide, by decide⟩ recv_Mo_init) p e s m _ below meth c (lw_Z below #[Value.ref b] s) D cT _ hX hsx) 12 [] [.ref 46] [.ref 46] (p46 f0 ++ [.inr (7, zz_df zz_tF 7 29)]) 55 2003 (va_up ad1 46 q1) H2 locs1 ls1 (fun r ws => r = none ∧ ws = gW f0 mNew []) (fun _ _ => False) (by decide +kernel) rfl (by decide) (by decide) (by decide) (by rw [hp46, e2]; exact hP2) (by rw [hp46, e2]; exact hD2) hS2 hls1.1 ⟨f0, hcl, rfl, rfl, rfl, rfl⟩
  have e3 : ([Value.ref 46].reverse ++ [Value.ref 46]).map (zz_V (va_up ad1 46 q1)) = [.ref q1, .ref q1] := by
    show [Value.ref (va_up ad1 46 q1 46), Value.ref (va_up ad1 46 q1 46)] = _
    rw [ea]
  rw [e3] at key
  refine key ?_ (fun E ws' H' locs' q ce h => h.elim)
  clear key
  rintro r ws2 ad2 H3 locs2 ⟨rfl, hw2⟩ - hag2 hP3 hD3 hS3
  have hb46 : ad2 46 = q1 := (hag2 46 (by show 46 < 47; decide)).trans ea
  have hb0 : ad2 0 = q0 := ((hag2 0 (by show 0 < 47; decide)).trans (zz_up_lt ad1 46 q1 0 (by decide))).trans ha0
  have e4 : ((none : Option Value).map (zz_V ad2)).toList ++ [Value.ref 46].map (zz_V (va_up ad1 46 q1)) = [.ref q1] := by
    show [Value.ref (va_up ad1 46 q1 46)] = _
    rw [ea]
  rw [e4]
  have hlen2 : ws2.length = 70 := by rw [hw2]; rfl
  have hall1 : ws2.all (zz_ce 70) = true := by
    rw [hw2]
    unfold gW
    rw [List.all_append, hcl 70 (by decide)]
    rfl
  refine lv_astore_n (k := 2) (i := 2) (x := q1) (nL := 7) (lv' := [(2, .ref q1), (1, .ref q0), (0, .ref b)]) hx hb (pc := 15) (by decide +kernel) rfl hls1 (by decide) rfl (fun ls2 hls2 => ?_)
  -- out
  refine lv_iconst (v := 1) hx hb (pc := 16) (n := 1) (by decide +kernel) (by decide) ?_
  refine va_newa hx hb (pc := 17) (atype := .long) (hts (.arrayClass .long) (by decide +kernel)) (ty := .long) rfl hK hP3 hD3 hS3 hA (N' := 1) (a0 := (1, .inr (.inl (fun _ => 0)))) (fun _ => rfl) (by decide) rfl (by decide) (by decide) (by decide) (by decide +kernel) (fun q2 cA H4 hK4 hP4 hD4 hS4 => ?_)
  have hcA : cA = cT 2 := by
    have z1 : s.vm.findClass ("[" ++ (FieldType.long).toString) = some cA := (hK4.2 3 (cA, .long) rfl).2
    have z2 : s.vm.findClass ("[" ++ (FieldType.long).toString) = some (cT 2) := (hK.2 2 (cT 2, .long) rfl).2
    exact Option.some.inj (z1.symm.trans z2)
  subst hcA
  refine lv_astore_n (k := 3) (i := 3) (x := q2) (nL := 7) (lv' := [(3, .ref q2), (2, .ref q1), (1, .ref q0), (0, .ref b)]) hx hb (pc := 19) (by decide +kernel) rfl hls2 (by decide) rfl (fun ls3 hls3 => ?_)
  refine lv_iconst (v := 0) hx hb (pc := 20) (n := 0) (by decide +kernel) (by decide) ?_
  refine lv_istore (i := 4) (nL := 7) (lv' := [(4, .int 0), (3, .ref q2), (2, .ref q1), (1, .ref q0), (0, .ref b)]) hx hb (pc := 21) (by decide +kernel) hls3 (by decide) rfl (fun ls4 hls4 => ?_)
  -- the loop
  have hg : ws2 ++ [oL (fun _ => 0)] = gX (qNew l1 l2) mNew (fun _ => 0) := by
    rw [hw2, gX_W, hf0]
    unfold gW
    rw [List.append_nil, List.append_assoc]
  have e5 := zz_C_cell (cT := cT) (ad := ad2) (q := q2) (a := 2) (x := (1, .inr (.inl (fun _ => 0)))) hlen2 hall1
  have hg2 : ws2 ++ [.inl (2, (1, .inr (.inl (fun _ => 0))))] = gX (qNew l1 l2) mNew (fun _ => 0) := hg
  rw [hg2] at e5
  obtain ⟨w9, hw9⟩ : ∃ w, w = gX (qNew l1 l2) mNew (fun _ => 0) := ⟨_, rfl⟩
  have hlen9 : w9.length = 71 := by rw [hw9, ← hg, List.length_append, hlen2]; rfl
  have hall2 : w9.all (zz_ce 71) = true := by
    rw [hw9, ← hg, List.all_append, zz_ce_le (show 70 ≤ 71 by decide) hall1]
    rfl
  rw [← hw9] at e5
  have e6 : zz_C cT (fun j => if j = 1000 then b else va_up ad2 70 q2 j) w9 = zz_C cT (va_up ad2 70 q2) w9 :=
    zz_C_eq (n := 71) (fun k hk => if_neg (by omega)) (by rw [hlen9]; exact Nat.le_refl _) hall2
  have hSR : SR (qNew l1 l2) mNew := SR_new hl1
  have hI : iLaw L (L + 1 - 0) [some (.ref 1000), some (.ref 0), some (.ref 46), some (.ref 70), some (.int (nI 0)), none, none] [] w9 80 4712 := ⟨qNew l1 l2, mNew, fun _ => 0, 0, 0, hSR, Nat.zero_le _, by decide, rfl, by decide, by decide, rfl, rfl, hw9⟩
  refine law_loop hl hL C0 hK (ad := fun j => if j = 1000 then b else va_up ad2 70 q2 j) (if_pos rfl) hI (fun j => if j = 1000 then b else va_up ad2 70 q2 j) H4 locs2 ls4 rfl (by rw [e6, e5]; exact hP4) (by rw [e6, e5]; exact hD4) hS4 ⟨rfl, hls4.1, hls4.2.1, fun i v hi => ?_⟩
  match i, hi with
  | 0, hi => cases hi; exact lv_at hls4 4 rfl
  | 1, hi =>
    cases hi
    show ls4[1]? = some (.val (.ref (va_up ad2 70 q2 0)))
    rw [zz_up_lt ad2 70 q2 0 (by decide), hb0]
    exact lv_at hls4 3 rfl
  | 2, hi =>
    cases hi
    show ls4[2]? = some (.val (.ref (va_up ad2 70 q2 46)))
    rw [zz_up_lt ad2 70 q2 46 (by decide), hb46]
    exact lv_at hls4 2 rfl
  | 3, hi =>
    cases hi
    show ls4[3]? = some (.val (.ref (va_up ad2 70 q2 70)))
    rw [va_up_self]
    exact lv_at hls4 1 rfl
  | 4, hi => cases hi; exact lv_at hls4 0 rfl
  | 5, hi => cases hi
  | 6, hi => cases hi
  | i + 7, hi => cases hi
set_option maxHeartbeats 4000000 in
theorem lw_walk (l : Launch) (hl : l.stackTraces = false) (b : Addr) (xs : List Int32) : MetFree l x (headSpec (Jvm.Cond.code x code maxLocals ret :: tables_1) room_1) (lw_P b xs) (fun _ _ _ _ _ => True) lw_Q := by
  refine MetFree.of_bodyS (code := code) (maxLocals := maxLocals) (ret := ret) (by decide) ?_ ?_
  · intro args s m h hn
    obtain ⟨meth, c, h1, h2, h3, h4, h5, h6, -, -⟩ := Cond.code_spec hn (atoms_spec (ws := Jvm.Cond.code x code maxLocals ret :: tables_1) h _ List.mem_cons_self)
    exact ⟨meth, c, h1, h2, h3, h4, h5, h6⟩
  · intro p e s m args below meth c s₁ B hml0 hP _
    obtain ⟨rfl, hx, hbd, hgv⟩ := hP
    obtain ⟨scr, harrAt, hlist, hof, hsmall⟩ := hx
    obtain ⟨hcb, hkn, -, -⟩ := State.arrayAt?_spec harrAt
    have hown : s.vm.findClass R_law = some m.cls := findClass_of_methodNamed B.named
    have hts0 : ∀ c ∈ (Jvm.Cond.code x code maxLocals ret :: tables_1), c.before #[Value.ref b] s = true := atoms_spec (ws := Jvm.Cond.code x code maxLocals ret :: tables_1) B.pre
    have hts : ∀ w ∈ lw_tbl, w.before #[Value.ref b] s = true := k2_hts_sels lw_privs (fun w hw => hts0 w (List.mem_cons_of_mem _ hw)) lw_privs_ok
    have hml : c.maxLocals = 7 := B.maxLocals_eq (hts0 _ List.mem_cons_self)
    have X₀ : Stand p l e room_1 s m #[Value.ref b] below meth c s₁ [] 0 0 := Stand.of_body B
    have hh0 : s₁.heap = s.heap := by rw [B.state]; rfl
    have hsz : scr.slots.size = xs.length := by rw [← Array.length_toList, hlist, List.length_map]
    have hval : ∀ j : Nat, j < xs.length → scr.slots[j]? = some (.int (xs.getD j 0)) := fun j hj => by
      rw [← Array.getElem?_toList, hlist]
      simp [hj]
    have hbl : b < s.heap.size := (Array.getElem?_eq_some_iff.mp hcb).1
    have hX : va_X b xs.length (fun j => xs.getD j 0) s s.heap := ⟨scr, hcb, hof, hkn, hsz, hval⟩
    have K : W p l e room_1 s m #[Value.ref b] below meth c s₁.heap [] 0 0 (lw_Z below #[Value.ref b] s) (entryFrame m ([Value.ref b] : List Value).toArray 7) := by
      rw [hh0]
      exact whole_start l hl hbd ⟨B.exec, B.bytes, B.returns, hml, hown, hts, hX, hbl, B.notSynchronized, hgv⟩
    obtain ⟨t, a1, o, b1, b2, b3⟩ := K s₁ rfl X₀
    exact ⟨t, o, a1, b1, b2, b3⟩
theorem lw_pre_spec {args : Array Value} {s : State} (h : (Jvm.Cond.and given_1 narrow_1).before args s = true) (hr : rest_1_c.before args s = true) : ∃ (b : Addr) (xs : List Int32), lw_P b xs args s := by
  have hs := flat_of_before _ h
  have hq := flat_of_before _ hr
  have hc : (Cond.count 1).before args s = true := hs _ (by decide +kernel)
  have harr : (Cond.arrayOf (.arg 0) .int).before args s = true := hs _ (by decide +kernel)
  have hle : (Cond.le (.length (.arg 0)) (.int 2560)).before args s = true := hs _ (by decide +kernel)
  have hlen : (Cond.isInt (.length (.arg 0))).before args s = true := hq _ (by decide +kernel)
  have hall : (Cond.all (.arg 0) (.isInt (.elem (.arg 0) (.index 0)))).before args s = true := hq _ (by decide +kernel)
  obtain ⟨b, xs, hb, hx⟩ := State.ints_of_pre rfl harr hlen hall
  have hsm : xs.length < 2 ^ 31 := hx.choose_spec.2.2.2
  have hev : (Term.length (.arg 0)).eval args s none [] s = some (.int xs.length.toInt32) := hx.length_eval hb
  have hv := Cond.le_ints hev (show (Term.int 2560).eval args s none [] s = some (.int 2560) from rfl)
  have hd : xs.length.toInt32 ≤ 2560 := by
    simpa [Cond.before, Cond.holds, hv] using hle
  have hN : xs.length ≤ 2560 := (Int32.ofNat_le_ofNat hsm (by decide)).mp (show Int32.ofNat xs.length ≤ Int32.ofNat 2560 from hd)
  exact ⟨b, xs, Cond.one_arg hc (show args[0]? = some (.ref b) from hb), hx, hN, h⟩
theorem lw_comes (l : Launch) (hl : l.stackTraces = false) : Comes l x (Jvm.Cond.code x code maxLocals ret :: tables_1) room_1 (fun tb e args s => Calls_1 tb e args s ∧ rest_1 tb e args s ∧ Pre_1 tb e args s)
    (fun _ _ args s o t => lw_Q args s o t) := by
  intro p e ha hc hk s m args below hf hfit hheap happ hpre
  obtain ⟨b, xs, hP⟩ := lw_pre_spec hpre.2.2 hpre.2.1
  obtain ⟨k, o, h1, h2, h3, hQ⟩ := lw_walk l hl b xs p e ha hc hk s m args below hf ((Spec.applies_iff_loose hf).mp happ).1 hP trivial
  exact ⟨k, o, h1, h2, h3, hQ⟩
theorem lw_frame {s t : State} {o : Outcome} {args : Array Value} (h : Framed s o t [] 1112 12952) :
    Framed s o t (fieldLocs frame_1_writes args s ++ arrayLocs frame_1_arrays args s ++ staticLocs frame_1_statics s) 1112 12952 := h
theorem lw_limb (L : Cond) (hL : ∀ (args : Array Value) (s t : State), L.after args s (.returned (some (.int 1))) t = true) :
    ArmFor flags0 classFile x code maxLocals ret World_1 tables_1 room_1 Calls_1 rest_1 Pre_1
      (fun tb e a s o t => postC L tb e a s o t ∧ Framed s o t (fieldLocs frame_1_writes a s ++ arrayLocs frame_1_arrays a s ++ staticLocs frame_1_statics s) 1112 12952) := by
  intro l hfl _ _ p e ha hc hk s m args below hf hfit hheap happ hpre
  have hl : l.stackTraces = false := by unfold Launch.stackTraces; rw [hfl]; decide
  obtain ⟨k, o, h1, h2, h3, rfl, hF⟩ := lw_comes l hl p e ha hc hk s m args below hf hfit hheap happ hpre
  exact ⟨k, _, h1, h2, h3, hL args s _, lw_frame hF⟩
theorem i_vc : Claimed_1_1 ∧ Claimed_1_2 := ⟨lw_limb limb_1_1 (fun args s t => by simp [limb_1_1, Cond.after, Cond.holds, Cond.value]), lw_limb limb_1_2 (fun args s t => Cond.after_iff.mpr (by
  first | (rw [show limb_1_2 = Cond.eq .result (.int 1) from rfl, Cond.eq_ints (x := 1) (y := 1) rfl rfl]; simp; done) | (simp [limb_1_2, Cond.value, Term.eval]; done)))⟩
