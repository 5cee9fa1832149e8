/-! ===== a contract out of its walk ===== -/
def zz_sl : List Value → List (Option Value)
  | [] => []
  | v :: r => bif Nat.beq v.category 2 then some v :: none :: zz_sl r else some v :: zz_sl r
def zz_en (nL : Nat) (As : List Value) : List (Option Value) := zz_sl As ++ List.replicate (nL - (zz_sl As).length) none
theorem zz_sl_args {ad : Nat → Nat} : ∀ (As : List Value) (i j : Nat) (v : Value), (zz_sl As)[j]? = some (some v) → (i + j, zz_V ad v) ∈ lv_args i (As.map (zz_V ad))
  | [], _, _, _, h => by cases h
  | u :: r, i, j, v, h => by
    unfold zz_sl at h
    rw [List.map_cons]
    unfold lv_args
    rw [zz_V_cat]
    cases hc : Nat.beq u.category 2 with
    | true =>
      have hc2 : u.category = 2 := Nat.eq_of_beq_eq_true hc
      rw [hc] at h
      rw [if_pos hc2]
      match j, h with
      | 0, h => cases h; exact List.mem_cons_self
      | 1, h => cases h
      | j + 2, h =>
        refine List.mem_cons_of_mem _ ?_
        have := zz_sl_args (ad := ad) r (i + 2) j v h
        rwa [show i + 2 + j = i + (j + 2) by omega] at this
    | false =>
      have hc2 : ¬ u.category = 2 := fun e => by rw [e] at hc; cases hc
      rw [hc] at h
      rw [if_neg hc2]
      match j, h with
      | 0, h => cases h; exact List.mem_cons_self
      | j + 1, h =>
        refine List.mem_cons_of_mem _ ?_
        have := zz_sl_args (ad := ad) r (i + 1) j v h
        rwa [show i + 1 + j = i + (j + 1) by omega] at this
theorem zz_sl_len {ad : Nat → Nat} : ∀ (As : List Value), (lg_sl (As.map (zz_V ad))).length = (zz_sl As).length
  | [] => rfl
  | u :: r => by
    have ih := zz_sl_len (ad := ad) r
    unfold zz_sl
    unfold lg_sl at ih ⊢
    rw [List.map_cons, List.flatMap_cons, List.length_append, ih, zz_V_cat]
    cases hc : Nat.beq u.category 2 with
    | true =>
      rw [if_pos (Nat.eq_of_beq_eq_true hc)]
      simp
      omega
    | false =>
      rw [if_neg (fun e => by rw [e] at hc; cases hc)]
      simp
      omega
theorem zz_L_entry {ad : Nat → Nat} {As : List Value} {n : Nat} (h : (zz_sl As).length ≤ n) : zz_L ((lg_sl (As.map (zz_V ad)) ++ List.replicate (n - (lg_sl (As.map (zz_V ad))).length) Slot.unset).toArray) n ad (zz_en n As) := by
  have hl := lv_entry (As.map (zz_V ad)) (n := n) (by rw [zz_sl_len]; exact h)
  refine ⟨by simp [zz_en]; omega, hl.1, hl.2.1, fun i v hi => ?_⟩
  unfold zz_en at hi
  by_cases hlt : i < (zz_sl As).length
  · rw [List.getElem?_append_left hlt] at hi
    have := zz_sl_args (ad := ad) As 0 i v hi
    rw [Nat.zero_add] at this
    exact hl.2.2 _ this
  · rw [List.getElem?_append_right (by omega)] at hi
    have := List.eq_of_mem_replicate (List.mem_of_getElem? hi)
    cases this
/-- a table of calls: by the instruction's kind (0 virtual, 1 static, 2 special) and its number -/
def zz_tab : List (Nat × Nat × zz_Y) → Nat → Nat → Option zz_Y
  | [], _, _ => none
  | q :: r, kd, idx => bif Nat.beq q.1 kd && Nat.beq q.2.1 idx then some q.2.2 else zz_tab r kd idx
def zz_ik (kd idx : Nat) : Instr := match kd with
  | 0 => .invokevirtual idx
  | 1 => .invokestatic idx
  | _ => .invokespecial idx
def zz_Ev (CL : List vw_C) (tF : Nat → Nat → FieldType) (l : Launch) (R : Room) (own : String) (cc : ByteArray) (ini : Bool) (nL : Nat) (q : Nat × Nat × zz_Y) : Prop :=
  ∀ (p : Program) (e : Env) (s : State) (m : MethodId) (args : Array Value) (below : List Frame) (meth : Method) (c : Code) (Q : State → Prop) (D : va_G) (cT : Nat → ClassId) (A : Nat → Prop), zz_X CL p R s m args meth c D cT A nL zz_al tF own cc ini → zz_sx A s →
    zz_Cl CL p l e R s m args below meth c Q D cT A nL cc (zz_ik q.1 q.2.1) q.2.2
theorem zz_tab_mem : ∀ {L : List (Nat × Nat × zz_Y)} {kd idx : Nat} {y : zz_Y}, zz_tab L kd idx = some y → (kd, idx, y) ∈ L
  | [], _, _, _, h => by cases h
  | q :: r, kd, idx, y, h => by
    unfold zz_tab at h
    cases hc : (Nat.beq q.1 kd && Nat.beq q.2.1 idx) with
    | true =>
      rw [hc] at h
      obtain ⟨h1, h2⟩ := Bool.and_eq_true_iff.mp hc
      have e1 := Nat.eq_of_beq_eq_true h1
      have e2 := Nat.eq_of_beq_eq_true h2
      have e3 : q.2.2 = y := Option.some.inj h
      refine List.mem_cons.mpr (Or.inl ?_)
      rw [← e1, ← e2, ← e3]
    | false =>
      rw [hc] at h
      exact List.mem_cons_of_mem _ (zz_tab_mem h)
/-- where a throw stands: whatever the frame, with nothing on its stack -/
def zz_Tk (CL : List vw_C) (tF : Nat → Nat → FieldType) (l : Launch) (R : Room) (own : String) (cc : ByteArray) (ini : Bool) (nL pc : Nat) (E : String) : Prop :=
  ∀ (p : Program) (e : Env) (s : State) (m : MethodId) (args : Array Value) (below : List Frame) (meth : Method) (c : Code) (Qc : Array Value → State → Outcome → State → Prop) (XC : String → State → State → Prop) (D : va_G) (cT : Nat → ClassId) (A : Nat → Prop) (mc ms nc ns : Nat) (H : Heap) (locs : List Loc) (lsA : Array Slot),
    zz_X CL p R s m args meth c D cT A nL zz_al tF own cc ini → zz_sx A s → meth.locks = false → (∀ x ∈ c.exceptionTable.toList, False) → va_S A s.heap H locs → lsA.size = nL → nc + 1 ≤ R.cells → ns + 6 ≤ R.slots → nc + 1 ≤ mc + 1 → ns + 6 ≤ ms + 6 →
    (∀ t : State, s.vm.Alike t.vm → H.size ≤ t.heap.size → (∀ q : Nat, q < H.size → t.heap[q]? = H[q]?) → XC E s t) →
    W p l e R s m args below meth c H locs nc ns (vx_MQ below Qc XC args s mc ms A) (F0 m pc lsA [])
def zz_g0 (g : Bool) (n : Nat) : Option Nat := bif g then some n else none
def zz_rn (mc ms : Nat) (k : Option Value → List va_E → Prop) : Option Value → List va_E → Nat → Nat → Prop := fun r ws nc ns => (nc ≤ mc ∧ ns ≤ ms) ∧ k r ws
def zz_xn (g : Bool) (mc ms : Nat) (x : String → List va_E → Prop) : Nat → String → List (Option Value) → List va_E → Nat → Nat → Prop := fun _ E _ ws nc ns => (g = false ∧ nc ≤ mc + 1 ∧ ns ≤ ms + 6) ∧ x E ws
/-- what a method's walk owes -/
def zz_VC (tF : Nat → Nat → FieldType) (rm : Room) (rt : Option FieldType) (L : List (Nat × Nat × zz_Y)) (sw : Nat → List (Int32 × Nat)) (pg : Nat → Option zz_I) (th : Nat → Option String) (nL : Nat) (yy : zz_Y) : Prop :=
  ∀ (As : List Value) (ws : List va_E) (k : Option Value → List va_E → Prop) (x : String → List va_E → Prop), yy.2.2.2.2 As ws k x → (zz_sl As).length ≤ nL ∧
    ∃ (cut : Nat → Option (List Bool × (Nat → zz_Q))) (fuel : Nat), (∀ pc bm I, cut pc = some (bm, I) → bm.length = nL) ∧
      (∀ pc bm I, cut pc = some (bm, I) → ∀ n ls st ws' nc ns, I n ls st ws' nc ns →
        zz_1 tF rm.cells rm.slots (zz_g0 yy.2.1 ws.length) rt (zz_tab L) sw pg th (zz_rn yy.2.2.1 yy.2.2.2.1 k) (zz_xn yy.2.1 yy.2.2.1 yy.2.2.2.1 x) (zz_w tF rm.cells rm.slots (zz_g0 yy.2.1 ws.length) rt (zz_tab L) sw pg th (zz_rn yy.2.2.1 yy.2.2.2.1 k) (zz_xn yy.2.1 yy.2.2.1 yy.2.2.2.1 x) (zz_ct cut (some n)) fuel) pc ls st ws' nc ns) ∧
      zz_w tF rm.cells rm.slots (zz_g0 yy.2.1 ws.length) rt (zz_tab L) sw pg th (zz_rn yy.2.2.1 yy.2.2.2.1 k) (zz_xn yy.2.1 yy.2.2.1 yy.2.2.2.1 x) (zz_ct cut none) fuel 0 (zz_en nL As) [] ws 0 0
set_option maxHeartbeats 4000000 in
theorem zz_M_of {CL : List vw_C} {tF : Nat → Nat → FieldType} {HOST : String} {l : Launch} {y : MethodName} {cc : ByteArray} {nL : Nat} {rt : Option FieldType} {rm : Room} {yy : zz_Y} {L : List (Nat × Nat × zz_Y)} {sw : Nat → List (Int32 × Nat)} {pg : Nat → Option zz_I} {th : Nat → Option String} {ini : Bool}
    (hy : plainName y.cls = true) (hSt : zz_St CL zz_al tF) (hini : ini = true → y.name = "<init>") (hRf : 1 ≤ rm.frames) (hRl : 20 ≤ rm.locals)
    (hpg : ∀ (pc : Nat) (i : Instr) (v : Int32) (w : Int64) (a b : Nat), pg pc = some (i, v, w, a, b) → zz_ok CL zz_al HOST y.cls cc nL ini sw pc i v w a b = true)
    (hL : ∀ q ∈ L, zz_Ev CL tF l rm y.cls cc ini nL q) (hth : ∀ pc E, th pc = some E → zz_Tk CL tF l rm y.cls cc ini nL pc E)
    (hVC : zz_VC tF rm rt L sw pg th nL yy) : zz_M CL l y (Cond.code y cc nL rt :: zz_big) rm yy := by
  intro D cT As ws ad sz k x hpt
  obtain ⟨hlen, cut, fuel, hc1, hc2, h0⟩ := hVC As ws k x hpt
  refine vx_ofW hy rfl ?_
  intro p e s m args below meth c s₁ B hml hnx hv
  obtain ⟨rfl, hsz, hP, hK, hD0, hsx⟩ := hv
  subst hsz
  have hx := B.exec
  have hb := B.bytes
  have hr := B.returns
  have hts := atoms_spec (ws := Cond.code y cc nL rt :: zz_big) B.pre
  have hown : s.vm.findClass y.cls = some m.cls := findClass_of_methodNamed B.named
  have hlocks := B.notSynchronized
  have hin : ini = true → meth.name = "<init>" := fun h => (name_of_methodNamed B.named B.method).1.trans (hini h)
  have hD := hD0.self (sz := s.heap.size)
  generalize hAe : va_A (zz_C cT ad ws) s.heap.size = A at hD hsx ⊢
  have hA : ∀ q : Nat, s.heap.size ≤ q → A q := fun q h => by rw [← hAe]; exact Or.inr h
  have hS : va_S A s.heap s.heap [] := va_S.rf
  have hX : zz_X CL p rm s m (As.map (zz_V ad)).toArray meth c D cT A nL zz_al tF y.cls cc ini := ⟨hx, hb, hml, hown, hsx.all (fun w hw => hts w (List.mem_cons_of_mem _ hw)), hK, hA, hin, hSt, hRf, hRl⟩
  have F : zz_F CL p l e rm s m (As.map (zz_V ad)).toArray below meth c (vx_MQ below (zz_Qc CL D cT ad ws s.heap.size yy.2.1 k) (zz_XC CL D cT ad ws s.heap.size x) (As.map (zz_V ad)).toArray s yy.2.2.1 yy.2.2.2.1 A) D cT A nL (fun ad1 => (yy.2.1 = false → ad1 = ad) ∧ ∀ j, j < ws.length → ad1 j = ad j)
      zz_al tF HOST y.cls cc ini (zz_g0 yy.2.1 ws.length) rt (zz_tab L) sw pg th (zz_rn yy.2.2.1 yy.2.2.2.1 k) (zz_xn yy.2.1 yy.2.2.1 yy.2.2.2.1 x) := by
    refine ⟨hX, ?_, ?_, ⟨?_, ?_⟩, ?_, hpg, ?_⟩
    · intro n ad1 ad2 hg hj hag
      unfold zz_g0 at hg
      cases hgb : yy.2.1 with
      | false => rw [hgb] at hg; cases hg
      | true =>
        rw [hgb] at hg
        have hn : ws.length ≤ n := Nat.le_of_ble_eq_true hg
        refine ⟨fun h => (nomatch h), fun j h => (hj j (Nat.lt_of_lt_of_le h hn)).trans (hag.2 j h)⟩
    · intro idx z
      refine ⟨fun h => ?_, fun h => ?_, fun h => ?_⟩
      · exact hL _ (zz_tab_mem h) p e s m _ below meth c _ D cT A hX hsx
      · exact hL _ (zz_tab_mem h) p e s m _ below meth c _ D cT A hX hsx
      · exact hL _ (zz_tab_mem h) p e s m _ below meth c _ D cT A hX hsx
    · intro z ws1 nc ns pc ad1 H locs lsA hrt hret hd hag hP1 hD1 hS1
      obtain ⟨⟨g1, g2⟩, hk⟩ := hret
      have hq : ∀ t : State, t.heap = H → s.WarmedH t.vm → zz_Qc CL D cT ad ws s.heap.size yy.2.1 k (As.map (zz_V ad)).toArray s (.returned (some (.int z))) t := fun t ht hW => by
        refine ⟨⟨some (.int z), ws1, ad1, rfl, hag.1, hag.2, hk, by rw [ht]; exact hP1, by rw [hAe]; exact hD1⟩, by rw [hAe]; exact hS1.F ht⟩
      refine vx_ret (W.widen g1 g2 ?_)
      match rt, hr, hrt with
      | some .int, hr, _ => exact W.iret hx hb hr hq hS1.2.2 hd hlocks
      | some .boolean, hr, hrt =>
        have hn : narrow .boolean (.int z) = .int z := by
          rcases hrt with e1 | e1 <;> rw [e1] <;> rfl
        exact W.zret hx hb hr hn hq hS1.2.2 hd hlocks
    · intro ws1 nc ns pc ad1 H locs lsA hrt hret hd hag hP1 hD1 hS1
      obtain ⟨⟨g1, g2⟩, hk⟩ := hret
      subst hrt
      have hq : ∀ t : State, t.heap = H → s.WarmedH t.vm → zz_Qc CL D cT ad ws s.heap.size yy.2.1 k (As.map (zz_V ad)).toArray s (.returned none) t := fun t ht hW => by
        refine ⟨⟨none, ws1, ad1, rfl, hag.1, hag.2, hk, by rw [ht]; exact hP1, by rw [hAe]; exact hD1⟩, by rw [hAe]; exact hS1.F ht⟩
      exact vx_ret (W.widen g1 g2 (W.vret hx hb hr hq hS1.2.2 hd hlocks))
    · intro pc E ls1 ws1 nc ns hxx ad1 H locs lsA rest q ce hag hP1 hD1 hS1 hL1 h7 h8 h9
      obtain ⟨⟨g0, g1, g2⟩, hxe⟩ := hxx
      have e1 := hag.1 g0
      subst e1
      exact vx_out (fun z hz => (hnx z hz).elim) hlocks h7 h8 h9 (fun t ht ha => ⟨⟨ws1, hxe, by rw [ht]; exact hP1, by rw [hAe]; exact hD1⟩, by rw [hAe]; exact hS1.F ht⟩) hS1.2.2 g1 g2
    · intro pc E ls1 ws1 nc ns hE hxx ad1 H locs lsA hag hP1 hD1 hS1 hL1
      obtain ⟨⟨c1, c2⟩, ⟨g0, g1, g2⟩, hxe⟩ := hxx
      have e1 := hag.1 g0
      subst e1
      exact hth pc E hE p e s m _ below meth c _ _ D cT A _ _ nc ns H locs lsA hX hsx hlocks hnx hS1 hL1.2.1 c1 c2 g1 g2 (fun t ha h1 h2 => ⟨⟨ws1, hxe, hP1.kept (fun k q hq => h2 q.1 ((hP1 k q hq).lt)), by rw [hAe]; exact hD1⟩, by rw [hAe]; exact ⟨Nat.le_trans hS1.1 h1, fun q hq hn => (h2 q (Nat.lt_of_lt_of_le hq hS1.1)).trans (hS1.2.1 q hq hn)⟩⟩)
  rw [lg_entry_eq]
  exact F.entry hc1 hc2 h0 ad s.heap [] _ ⟨fun _ => rfl, fun _ _ => rfl⟩ hP hD hS (zz_L_entry hlen)
