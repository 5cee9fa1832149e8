/-! ===== methods that catch ===== -/
def zz_ex4 : List String := ["java/lang/IllegalArgumentException", "java/lang/IllegalStateException", "java/lang/IndexOutOfBoundsException", "java/lang/UnsupportedOperationException"]
def zz_nc (U : State) : Prop := ∀ C ∈ zz_ex4, ∀ T ∈ zz_ex4, ¬ C = T → va_Nc C T U
theorem zz_nc.moved {u U : State} (h : u.vm.Alike U.vm) (hn : zz_nc u) : zz_nc U := fun C hC T hT hCT => va_Nc.moved h (hn C hC T hT hCT)
/-- a row of the table: class, handler, its number, the answer, the slot -/
abbrev zz_Hr : Type := String × Nat × Nat × Nat × Nat
def zz_hh (z : Nat) (rows : List zz_Hr) : List (Nat × Nat × Nat × Nat) := rows.map (fun h => (0, z, h.2.1, h.2.2.1))
/-- the handler of a row: it stores, pushes the answer, returns -/
def zz_hd (cc : ByteArray) (nL : Nat) (h : zz_Hr) : Prop := h.2.2.2.2 < nL ∧
  ((decode cc h.2.1 = .ok (.astore h.2.2.2.2, 2) ∧ decode cc (h.2.1 + 2) = .ok (.iconst (h.2.2.2.1 : Int), 1) ∧ decode cc (h.2.1 + 3) = .ok (.ireturn, 1)) ∨
   ∃ i : Fin 4, (i : Nat) = h.2.2.2.2 ∧ decode cc h.2.1 = .ok (.astore_n i, 1) ∧ decode cc (h.2.1 + 1) = .ok (.iconst (h.2.2.2.1 : Int), 1) ∧ decode cc (h.2.1 + 2) = .ok (.ireturn, 1))
abbrev zz_PW : Type := List Value → List va_E → (Option Value → List va_E → Prop) → Prop
def zz_MW (CL : List vw_C) (l : Launch) (y : MethodName) (W0 : List Cond) (rm : Room) (mc ms : Nat) (pt : zz_PW) : Prop :=
  ∀ (D : va_G) (cT : Nat → ClassId) (As : List Value) (ws : List va_E) (ad : Nat → Nat) (sz : Nat) (k : Option Value → List va_E → Prop), pt As ws k →
    Met l y W0 rm (va_Pc (As.map (zz_V ad)) (fun U => zz_B CL D cT ad ws sz U ∧ zz_nc U)) (zz_Qc CL D cT ad ws sz false k) mc ms (va_A (zz_C cT ad ws) sz)
def zz_xw (rows : List zz_Hr) (pc0 mc ms : Nat) (k : Option Value → List va_E → Prop) : Nat → String → List (Option Value) → List va_E → Nat → Nat → Prop := fun pc E _ ws nc ns =>
  pc = pc0 ∧ (nc ≤ mc ∧ ns ≤ ms) ∧ ∃ pre h suf, rows = pre ++ h :: suf ∧ h.1 = E ∧ (∀ g ∈ pre, ¬ g.1 = E) ∧ k (some (.int (nI h.2.2.2.1))) ws
theorem zz_int_nI (n : Nat) : Int32.ofInt (n : Int) = nI n := rfl
set_option maxHeartbeats 4000000 in
theorem zz_MW_of {tF : Nat → Nat → FieldType} {HOST : String} {CL : List vw_C} {l : Launch} {y : MethodName} {cc : ByteArray} {nL : Nat} {rm : Room} {mc ms : Nat} {pt : zz_PW} {L : List (Nat × Nat × zz_Y)} {sw : Nat → List (Int32 × Nat)} {pg : Nat → Option zz_I} {rows : List zz_Hr} {z pc0 : Nat}
    (hy : plainName y.cls = true) (hSt : zz_St CL zz_al tF) (hRf : 1 ≤ rm.frames) (hRl : 20 ≤ rm.locals)
    (hpg : ∀ (pc : Nat) (i : Instr) (v : Int32) (w : Int64) (a b : Nat), pg pc = some (i, v, w, a, b) → zz_ok CL zz_al HOST y.cls cc nL false sw pc i v w a b = true)
    (hL : ∀ q ∈ L, zz_Ev CL tF l rm y.cls cc false nL q)
    (hrow : ∀ h ∈ rows, zz_hd cc nL h ∧ (Cond.classLink y.cls h.2.2.1 h.1 ∈ zz_big ∧ Cond.castable h.1 h.1 ∈ zz_al) ∧ h.1 ∈ zz_ex4 ∧ ¬ h.2.2.1 = 0 ∧ covers ⟨0, z, h.2.1, h.2.2.1⟩ pc0 = true)
    (hVC : ∀ As ws k, pt As ws k → (zz_sl As).length ≤ nL ∧ ∃ fuel, zz_w tF rm.cells rm.slots none (some .int) (zz_tab L) sw pg (fun _ => none) (zz_rn mc ms k) (zz_xw rows pc0 mc ms k) (fun _ => none) fuel 0 (zz_en nL As) [] ws 0 0) :
    zz_MW CL l y (Cond.codeWith y cc nL (some .int) (zz_hh z rows) :: zz_big) rm mc ms pt := by
  intro D cT As ws ad sz k hpt
  obtain ⟨hlen, fuel, h0⟩ := hVC As ws k hpt
  refine va_MetW hy rfl ?_
  intro p e s m args below meth c s₁ B hml hv
  obtain ⟨rfl, ⟨hsz, hP, hK, hD0, hsx⟩, hnc⟩ := hv
  subst hsz
  have hx := B.exec
  have hb := B.bytes
  have hr := B.returns
  have hts := atoms_spec (ws := Cond.codeWith y cc nL (some .int) (zz_hh z rows) :: zz_big) B.pre
  have htab := vx_table (x := y) B (hts _ List.mem_cons_self)
  have hown : s.vm.findClass y.cls = some m.cls := findClass_of_methodNamed B.named
  have hlocks := B.notSynchronized
  have hD := hD0.self (sz := s.heap.size)
  generalize hAe : va_A (zz_C cT ad ws) s.heap.size = A at hD hsx ⊢
  have hA : ∀ q : Nat, s.heap.size ≤ q → A q := fun q h => by rw [← hAe]; exact Or.inr h
  have hS : va_S A s.heap s.heap [] := va_S.rf
  have hta := hsx.all (fun w hw => hts w (List.mem_cons_of_mem _ hw))
  have hX : zz_X CL p rm s m (As.map (zz_V ad)).toArray meth c D cT A nL zz_al tF y.cls cc false := ⟨hx, hb, hml, hown, hta, hK, hA, fun h => (nomatch h), hSt, hRf, hRl⟩
  have hret : ∀ (x : Int32) (ws1 : List va_E) (nc ns pc : Nat) (H : Heap) (locs : List Loc) (lsA : Array Slot), (nc ≤ mc ∧ ns ≤ ms) ∧ k (some (.int x)) ws1 → decode cc pc = .ok (.ireturn, 1) → va_P D CL (zz_C cT ad ws1) H → va_D A (zz_C cT ad ws1) → va_S A s.heap H locs → W p l e rm s m (As.map (zz_V ad)).toArray below meth c H locs nc ns (MQ below (zz_Qc CL D cT ad ws s.heap.size false k) (As.map (zz_V ad)).toArray s mc ms A) (F0 m pc lsA [.int x]) := by
    intro x ws1 nc ns pc H locs lsA hk hd hP1 hD1 hS1
    obtain ⟨⟨g1, g2⟩, hk⟩ := hk
    have hq : ∀ t : State, t.heap = H → s.WarmedH t.vm → zz_Qc CL D cT ad ws s.heap.size false k (As.map (zz_V ad)).toArray s (.returned (some (.int x))) t := fun t ht hW => by
      refine ⟨⟨some (.int x), ws1, ad, rfl, fun _ => rfl, fun _ _ => rfl, hk, by rw [ht]; exact hP1, by rw [hAe]; exact hD1⟩, by rw [hAe]; exact hS1.F ht⟩
    exact W.widen g1 g2 (W.iret hx hb hr hq hS1.2.2 hd hlocks)
  have F : zz_F CL p l e rm s m (As.map (zz_V ad)).toArray below meth c (MQ below (zz_Qc CL D cT ad ws s.heap.size false k) (As.map (zz_V ad)).toArray s mc ms A) D cT A nL (fun ad1 => ad1 = ad)
      zz_al tF HOST y.cls cc false none (some .int) (zz_tab L) sw pg (fun _ => none) (zz_rn mc ms k) (zz_xw rows pc0 mc ms k) := by
    refine ⟨hX, fun n ad1 ad2 hg => (nomatch hg), ?_, ⟨?_, ?_⟩, ?_, hpg, fun pc E ls ws nc ns h => (nomatch h)⟩
    · intro idx zy
      refine ⟨fun h => ?_, fun h => ?_, fun h => ?_⟩
      · exact hL _ (zz_tab_mem h) p e s m _ below meth c _ D cT A hX hsx
      · exact hL _ (zz_tab_mem h) p e s m _ below meth c _ D cT A hX hsx
      · exact hL _ (zz_tab_mem h) p e s m _ below meth c _ D cT A hX hsx
    · intro x ws1 nc ns pc ad1 H locs lsA hrt hk hd hag hP1 hD1 hS1
      subst hag
      exact hret x ws1 nc ns pc H locs lsA hk hd hP1 hD1 hS1
    · intro ws1 nc ns pc ad1 H locs lsA hrt
      exact (nomatch hrt)
    · intro pc E ls1 ws1 nc ns hxx ad1 H locs lsA rest q ce hag hP1 hD1 hS1 hL1 h7 h8 h9
      subst hag
      obtain ⟨rfl, hg, pre, h, suf, hsp, rfl, hpre, hk⟩ := hxx
      have hm : h ∈ rows := by rw [hsp]; exact List.mem_append_right _ List.mem_cons_self
      obtain ⟨hdc, ⟨hlk, hcs⟩, hex, hci, hcov⟩ := hrow h hm
      refine vx_catch (own := y.cls) (name := h.1) hown (tableOf (zz_hh z pre)) ⟨0, z, h.2.1, h.2.2.1⟩ (tableOf (zz_hh z suf)) (by rw [htab, hsp]; unfold zz_hh tableOf; simp) ?_ hcov hci (hta _ (List.mem_append_left _ hlk)) (hta _ hcs) h7 h8 h9 ?_
      · intro x hx1
        unfold tableOf zz_hh at hx1
        rw [List.map_map] at hx1
        obtain ⟨g, hg1, rfl⟩ := List.mem_map.mp hx1
        have hgm : g ∈ rows := by rw [hsp]; exact List.mem_append_left _ hg1
        obtain ⟨-, ⟨hlk', -⟩, hex', hci', -⟩ := hrow g hgm
        exact Or.inr ⟨hci', g.1, hta _ (List.mem_append_left _ hlk'), hnc h.1 hex g.1 hex' (fun zz => hpre g hg1 zz.symm)⟩
      · obtain ⟨hn, ⟨d1, d2, d3⟩ | ⟨i, hi, d1, d2, d3⟩⟩ := hdc
        · refine lv_astore hx hb d1 hL1.has hn rfl (fun ls2 _ => ?_)
          refine lv_iconst hx hb d2 (zz_int_nI _) ?_
          exact hret _ ws1 nc ns _ H locs ls2 ⟨hg, hk⟩ d3 hP1 hD1 hS1
        · refine lv_astore_n hx hb d1 hi hL1.has hn rfl (fun ls2 _ => ?_)
          refine lv_iconst hx hb d2 (zz_int_nI _) ?_
          exact hret _ ws1 nc ns _ H locs ls2 ⟨hg, hk⟩ d3 hP1 hD1 hS1
  rw [lg_entry_eq]
  exact F.run (cut := fun _ => none) (fun pc bm I h => (nomatch h)) fuel _ _ _ _ _ _ h0 ad s.heap [] _ rfl hP hD hS (zz_L_entry hlen)
/-- a call of a method that catches -/
theorem zz_Cl_SW {CL : List vw_C} {p : Program} {l : Launch} {e : Env} {R : Room} {s : State} {m : MethodId} {args : Array Value} {below : List Frame} {meth : Method} {c : Code} {Q : State → Prop} {D : va_G} {cT : Nat → ClassId} {A : Nat → Prop} {nL : Nat} {tF : Nat → Nat → FieldType} {own : String} {cc : ByteArray} {ini : Bool}
    (hX : zz_X CL p R s m args meth c D cT A nL zz_al tF own cc ini) (hsx : zz_sx A s) (hnc : zz_nc s) {y : MethodName} {bytes : ByteArray} {maxL : Nat} {ret : Option FieldType} {hh : List (Nat × Nat × Nat × Nat)} {rm : Room} {idx n : Nat} {mc ms : Nat} {pt : zz_PW}
    (hM : zz_MW CL l y (Cond.codeWith y bytes maxL ret hh :: zz_big) rm mc ms pt)
    (hw : Cond.codeWith y bytes maxL ret hh ∈ zz_big ∧ Cond.initialized y.cls ∈ zz_big ∧ (y.cls ≠ "java/lang/invoke/MethodHandle" ∧ y.cls ≠ "java/lang/invoke/VarHandle" ∧ (parseMethodDescriptor y.desc).map (fun d => d.parameters.length) = some n))
    (hr : rm.cells = mc ∧ rm.slots = ms ∧ rm.frames + 1 ≤ R.frames ∧ 8 + (maxL + 11) + rm.locals ≤ R.locals) (hlink : Cond.methodLink own idx y ∈ zz_big) (hstat : Cond.static y ∈ zz_big) :
    zz_Cl CL p l e R s m args below meth c Q D cT A nL cc (.invokestatic idx) (n, false, mc, ms, fun As ws k _ => pt As ws k) := by
  obtain ⟨hx, hb, hml, hown, hta, hK, hA, -⟩ := hX
  have hts : ∀ w ∈ zz_big, w.before args s = true := fun w hw => hta w (List.mem_append_left _ hw)
  intro pc ls As rest ws nc ns ad H locs lsA k x hd0 hlen hst hc hs hP hD hS hsz hpt kk kx
  have hF := zz_in (s := s) hD hS hA
  have hlen' : (As.map (zz_V ad)).length = n := by
    rw [List.length_map]
    exact hlen
  have hcw : vx_CSW R s args own idx y bytes maxL ret hh (Cond.codeWith y bytes maxL ret hh :: zz_big) rm mc ms n := by
    refine ⟨⟨hr.1, hr.2.1, hr.2.2.1, hr.2.2.2, ?_, List.mem_cons_self⟩, hts _ hw.1, hts _ hw.2.1, ⟨hw.2.2.1, hw.2.2.2.1⟩, fun sig h => ?_, hts _ hlink, hts _ hstat⟩
    · exact pay_in hts (fun w hw1 => (List.mem_cons.mp hw1).elim (fun e => by rw [e]; exact zz_big_good _ hw.1) (fun h => zz_big_good _ h))
    · have h2 := hw.2.2.2.2
      rw [h] at h2
      exact (Option.some.inj h2).symm
  have hrun := vx_runSW (e := e) (below := below) (meth := meth) (locs := locs) (cells := nc) (slots := ns) (H := H) (g := F0 m pc lsA ((As.reverse ++ rest).map (zz_V ad))) (As := As.map (zz_V ad)) (rest := rest.map (zz_V ad)) (nL := nL) ⟨hx, hb, hml, hown, hts⟩ (hM D cT As ws ad H.size k hpt) hcw
    ⟨fun a U g mk h => ⟨h.1, ⟨h.2.1.1, h.2.1.2.1, va_K.moved (u := U) (U := U.calling g mk a) (Vm.Alike.refl U.vm) h.2.1.2.2.1, h.2.1.2.2.2.1, zz_sx.moved (u := U) (U := U.calling g mk a) rfl rfl h.2.1.2.2.2.2⟩, zz_nc.moved (u := U) (U := U.calling g mk a) (Vm.Alike.refl U.vm) h.2.2⟩,
      fun U hU hW => ⟨rfl, ⟨by rw [hU], by rw [hU]; exact hP, va_K.moved hW.alike hK, hD.weaken (fun _ _ _ _ => trivial), hsx.at hS hW hU hF⟩, zz_nc.moved hW.alike hnc⟩⟩
    rfl hlen' hsz (by simp) (lv_room (zz_cats hst)) hd0 ⟨Nat.le_trans (Nat.add_le_add_left (Nat.le_succ _) nc) hc, Nat.le_trans (Nat.add_le_add_left (Nat.le_add_right _ 6) ns) hs⟩
  exact zz_after (x := x) (fun T hT X => Or.inl (hrun T hT X)) hS hF kk kx
