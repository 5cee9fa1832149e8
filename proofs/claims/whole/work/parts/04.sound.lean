/-! ===== an entry of a program's table is what the code has ===== -/
def zz_tb (pc : Nat) (lo hi : Int) (offs : Array Int) (L : List (Int32 × Nat)) : Bool := decide (hi = lo + (L.length : Int) - 1) && (List.range L.length).all (fun j => match L[j]?, offs[j]? with
  | some q, some o => decide (q.1.toInt = lo + (j : Int)) && decide ((pc : Int) + o = (q.2 : Int))
  | _, _ => false)
theorem zz_sw_or {K : Nat → Prop} {d : Nat} {x : Int32} : ∀ {L : List (Int32 × Nat)}, zz_sw K d x L → (∃ (j : Nat) (q : Int32 × Nat), L[j]? = some q ∧ x = q.1 ∧ K q.2) ∨ ((∀ q ∈ L, ¬ x = q.1) ∧ K d)
  | [], h => Or.inr ⟨fun _ hq => absurd hq List.not_mem_nil, h⟩
  | q :: r, h => by
    by_cases e : x = q.1
    · exact Or.inl ⟨0, q, rfl, e, h.1 e⟩
    · rcases zz_sw_or (h.2 e) with ⟨j, q1, h1, h2, h3⟩ | ⟨h1, h2⟩
      · exact Or.inl ⟨j + 1, q1, h1, h2, h3⟩
      · exact Or.inr ⟨fun q1 hq => (List.mem_cons.mp hq).elim (fun e1 => by rw [e1]; exact e) (h1 q1), h2⟩
theorem zz_tb_at {pc : Nat} {lo hi : Int} {offs : Array Int} {L : List (Int32 × Nat)} (h : zz_tb pc lo hi offs L = true) : hi = lo + (L.length : Int) - 1 ∧ ∀ (j : Nat) (q : Int32 × Nat), L[j]? = some q → q.1.toInt = lo + (j : Int) ∧ ∃ o, offs[j]? = some o ∧ (pc : Int) + o = (q.2 : Int) := by
  obtain ⟨h1, h2⟩ := Bool.and_eq_true_iff.mp h
  refine ⟨of_decide_eq_true h1, fun j q hq => ?_⟩
  have h3 := List.all_eq_true.mp h2 j (List.mem_range.mpr (List.getElem?_eq_some_iff.mp hq).1)
  rw [hq] at h3
  cases ho : offs[j]? with
  | none => rw [ho] at h3; cases h3
  | some o =>
    rw [ho] at h3
    obtain ⟨h4, h5⟩ := Bool.and_eq_true_iff.mp h3
    exact ⟨of_decide_eq_true h4, o, rfl, of_decide_eq_true h5⟩
/-- which of several places with one number is meant -/
theorem zz_sw_fn {K : Nat → Prop} {d : Nat} {x : Int32} {pc : Nat} {dd : Int} : ∀ {L : List (Int32 × Nat)}, zz_sw K d x L → (pc : Int) + dd = (d : Int) → ∃ t : Nat, (pc : Int) + Op.lookupswitch.offset (L.map (fun q => (q.1.toInt, (q.2 : Int) - (pc : Int)))) dd x.toInt = (t : Int) ∧ K t
  | [], h, hd => ⟨d, hd, h⟩
  | q :: r, h, hd => by
    by_cases e : x = q.1
    · exact ⟨q.2, by rw [List.map_cons, Op.lookupswitch.offset_cons, if_pos (by rw [e])]; omega, h.1 e⟩
    · obtain ⟨t, h1, h2⟩ := zz_sw_fn (h.2 e) hd
      exact ⟨t, by rw [List.map_cons, lv_osw e rfl]; exact h1, h2⟩
def zz_ok (CL : List vw_C) (BIG : List Cond) (HOST own : String) (cc : ByteArray) (nL : Nat) (ini : Bool) (sw : Nat → List (Int32 × Nat)) (pc : Nat) (i : Instr) (v : Int32) (w : Int64) (a b : Nat) : Bool :=
  match i with
  | .iconst n => decide (decode cc pc = .ok (.iconst n, 1)) && decide (Int32.ofInt n = v)
  | .bipush n => decide (decode cc pc = .ok (.bipush n, 2)) && decide ((Int8.ofInt n).toInt32 = v)
  | .sipush n => decide (decode cc pc = .ok (.sipush n, 3)) && decide ((Int16.ofInt n).toInt32 = v)
  | .ldc n => decide (decode cc pc = .ok (.ldc n, 2)) && decide (Cond.constant own n v ∈ BIG)
  | .ldc_w n => decide (decode cc pc = .ok (.ldc_w n, 3)) && decide (Cond.constant own n v ∈ BIG)
  | .ldc2_w n => decide (decode cc pc = .ok (.ldc2_w n, 3)) && decide (Cond.constantLong own n w ∈ BIG)
  | .lconst n => decide (decode cc pc = .ok (.lconst n, 1)) && decide (Int64.ofNat (n : Nat) = w)
  | .iload_n n => decide (decode cc pc = .ok (.iload_n n, 1)) && decide ((n : Nat) = a)
  | .lload_n n => decide (decode cc pc = .ok (.lload_n n, 1)) && decide ((n : Nat) = a)
  | .aload_n n => decide (decode cc pc = .ok (.aload_n n, 1)) && decide ((n : Nat) = a)
  | .istore_n n => decide (decode cc pc = .ok (.istore_n n, 1)) && decide ((n : Nat) = a ∧ a < nL)
  | .astore_n n => decide (decode cc pc = .ok (.astore_n n, 1)) && decide ((n : Nat) = a ∧ a < nL)
  | .lstore_n n => decide (decode cc pc = .ok (.lstore_n n, 1)) && decide ((n : Nat) = a ∧ a + 1 < nL)
  | .iload n => decide (decode cc pc = .ok (.iload n, 2)) && decide (n = a)
  | .lload n => decide (decode cc pc = .ok (.lload n, 2)) && decide (n = a)
  | .aload n => decide (decode cc pc = .ok (.aload n, 2)) && decide (n = a)
  | .istore n => decide (decode cc pc = .ok (.istore n, 2)) && decide (n = a ∧ a < nL)
  | .astore n => decide (decode cc pc = .ok (.astore n, 2)) && decide (n = a ∧ a < nL)
  | .lstore n => decide (decode cc pc = .ok (.lstore n, 2)) && decide (n = a ∧ a + 1 < nL)
  | .iinc n d => decide (decode cc pc = .ok (.iinc n d, 3)) && decide (n = a ∧ a < nL ∧ Int32.ofInt d = v)
  | .goto o => decide (decode cc pc = .ok (.goto o, 3)) && decide ((pc : Int) + o = (a : Int))
  | .ifCond q o => decide (decode cc pc = .ok (.ifCond q o, 3)) && decide ((pc : Int) + o = (a : Int))
  | .if_icmp q o => decide (decode cc pc = .ok (.if_icmp q o, 3)) && decide ((pc : Int) + o = (a : Int))
  | .getfield n => decide (decode cc pc = .ok (.getfield n, 3)) && (match CL[a]? with
    | some (_, T, N) => Nat.blt b N && (decide (Cond.fieldLink own n (T b).1 (T b).2.1 (T b).2.2.1 ∈ BIG) || decide (Cond.fieldLinkNest own n (T b).1 (T b).2.1 (T b).2.2.1 HOST ∈ BIG))
    | none => false)
  | .putfield n => decide (decode cc pc = .ok (.putfield n, 3)) && (match CL[a]? with
    | some (_, T, N) => Nat.blt b N && (bif (T b).2.2.2 then ini && (decide ((T b).1 = own) && decide (Cond.fieldLink own n (T b).1 (T b).2.1 (T b).2.2.1 ∈ BIG))
        else (decide (Cond.fieldLink own n (T b).1 (T b).2.1 (T b).2.2.1 ∈ BIG) || decide (Cond.fieldLinkNest own n (T b).1 (T b).2.1 (T b).2.2.1 HOST ∈ BIG)))
    | none => false)
  | .new n => decide (decode cc pc = .ok (.new n, 3)) && (match CL[a]? with
    | some (C, _, N) => decide (N = b) && (decide (Cond.classLink own n C ∈ BIG) && (decide (Cond.instantiable C N ∈ BIG) && decide (Cond.initialized C ∈ BIG)))
    | none => false)
  | .newarray t => decide (decode cc pc = .ok (.newarray t, 2)) && decide (Cond.arrayClass (newarray.typeOf t) ∈ BIG)
  | .invokespecial n => decide (decode cc pc = .ok (.invokespecial n, 3)) && (bif Nat.beq a 1 then decide (Cond.methodLink own n Lib.objectInit ∈ BIG) && (decide (Cond.instanceMethod Lib.objectInit ∈ BIG) && decide (Cond.code Lib.objectInit ⟨#[0xb1]⟩ 1 none ∈ BIG)) else true)
  | .invokevirtual n => decide (decode cc pc = .ok (.invokevirtual n, 3))
  | .invokestatic n => decide (decode cc pc = .ok (.invokestatic n, 3))
  | .tableswitch d lo hi offs => (match decode cc pc with
    | .ok (j, _) => decide (j = .tableswitch d lo hi offs)
    | _ => false) && (decide ((pc : Int) + d = (a : Int)) && zz_tb pc lo hi offs (sw pc))
  | .lookupswitch d ps => (match decode cc pc with
    | .ok (j, _) => decide (j = .lookupswitch d ps)
    | _ => false) && (decide ((pc : Int) + d = (a : Int)) && ((ps.toList.zip (ps.toList.drop 1)).all (fun (a, next) => a.1 < next.1) && decide (ps.toList = (sw pc).map (fun q => (q.1.toInt, (q.2 : Int) - (pc : Int))))))
  | i => decide (decode cc pc = .ok (i, 1))
def zz_ty (cT : Nat → ClassId) : List (ClassId × FieldType) := [(cT 0, .int), (cT 1, .boolean), (cT 2, .long)]
/-- what a program's text says of the objects' tables -/
def zz_St (CL : List vw_C) (BIG : List Cond) (tF : Nat → Nat → FieldType) : Prop := ∀ (ci : Nat) (q : vw_C), CL[ci]? = some q →
  (∀ w ∈ u_ws q.1 q.2.1 q.2.2, w ∈ BIG) ∧ (∀ k, k < q.2.2 → parseFieldDescriptor (q.2.1 k).2.2.1 = some (tF ci k)) ∧ ∀ a, a < q.2.2 → ∀ b, b < q.2.2 → a ≠ b → (q.2.1 a).2.1 ≠ (q.2.1 b).2.1
section ZG
variable (CL : List vw_C) (p : Program) (l : Launch) (e : Env) (R : Room) (s : State) (m : MethodId) (args : Array Value) (below : List Frame) (meth : Method) (c : Code) (Q : State → Prop) (D : va_G) (cT : Nat → ClassId) (A : Nat → Prop) (nL : Nat) (ag : (Nat → Nat) → Prop)
/-- from every heap that holds these places the machine comes to Q -/
def zz_G (pc : Nat) (ls : List (Option Value)) (st : List Value) (ws : List va_E) (nc ns : Nat) : Prop :=
  ∀ (ad : Nat → Nat) (H : Heap) (locs : List Loc) (lsA : Array Slot), ag ad → va_P D CL (zz_C cT ad ws) H → va_D A (zz_C cT ad ws) → va_S A s.heap H locs → zz_L lsA nL ad ls →
    W p l e R s m args below meth c H locs nc ns Q (F0 m pc lsA (st.map (zz_V ad)))
/-- q is thrown at pc -/
def zz_H (pc : Nat) (E : String) (ls : List (Option Value)) (ws : List va_E) (nc ns : Nat) : Prop :=
  ∀ (ad : Nat → Nat) (H : Heap) (locs : List Loc) (lsA : Array Slot) (rest : List Value) (q : Addr) (ce : Cell), ag ad → va_P D CL (zz_C cT ad ws) H → va_D A (zz_C cT ad ws) → va_S A s.heap H locs → zz_L lsA nL ad ls → H[q]? = some ce → ce.vm = .none → s.vm.findClass E = some ce.cls →
    vx_W p l e R s m args below meth c H locs nc ns Q (F0 m pc lsA rest) q
/-- a call by its number, in this method -/
def zz_Cl (cc : ByteArray) (ins : Instr) (y : zz_Y) : Prop :=
  ∀ (pc : Nat) (ls : List (Option Value)) (As rest : List Value) (ws : List va_E) (nc ns : Nat) (ad : Nat → Nat) (H : Heap) (locs : List Loc) (lsA : Array Slot) (k : Option Value → List va_E → Prop) (x : String → List va_E → Prop),
    decode cc pc = .ok (ins, 3) → As.length = y.1 → (rest.map (fun v => v.category)).sum ≤ 8 → nc + (y.2.2.1 + 1) ≤ R.cells → ns + (y.2.2.2.1 + 6) ≤ R.slots →
    va_P D CL (zz_C cT ad ws) H → va_D A (zz_C cT ad ws) → va_S A s.heap H locs → lsA.size = nL → y.2.2.2.2 As ws k x →
    (∀ (r : Option Value) (ws' : List va_E) (ad' : Nat → Nat) (H' : Heap) (locs' : List Loc), k r ws' → (y.2.1 = false → ad' = ad) → (∀ j, j < ws.length → ad' j = ad j) → va_P D CL (zz_C cT ad' ws') H' → va_D A (zz_C cT ad' ws') → va_S A s.heap H' locs' →
      W p l e R s m args below meth c H' locs' (nc + y.2.2.1) (ns + y.2.2.2.1) Q (F0 m (pc + 3) lsA ((r.map (zz_V ad')).toList ++ rest.map (zz_V ad)))) →
    (∀ (E : String) (ws' : List va_E) (H' : Heap) (locs' : List Loc) (q : Addr) (ce : Cell), x E ws' → va_P D CL (zz_C cT ad ws') H' → va_D A (zz_C cT ad ws') → va_S A s.heap H' locs' → H'[q]? = some ce → ce.vm = .none → s.vm.findClass E = some ce.cls →
      vx_W p l e R s m args below meth c H' locs' (nc + (y.2.2.1 + 1)) (ns + (y.2.2.2.1 + 6)) Q (F0 m pc lsA (rest.map (zz_V ad))) q) →
    W p l e R s m args below meth c H locs nc ns Q (F0 m pc lsA ((As.reverse ++ rest).map (zz_V ad)))
/-- what is fixed in a walk -/
def zz_X (BIG : List Cond) (tF : Nat → Nat → FieldType) (own : String) (cc : ByteArray) (ini : Bool) : Prop :=
  p.tables.exec = Jvm.exec ∧ c.code = cc ∧ c.maxLocals = nL ∧ s.vm.findClass own = some m.cls ∧ (∀ w ∈ BIG, w.before args s = true) ∧ va_K D CL (zz_ty cT) s ∧ (∀ q, s.heap.size ≤ q → A q) ∧ (ini = true → meth.name = "<init>") ∧ zz_St CL BIG tF ∧ 1 ≤ R.frames ∧ 20 ≤ R.locals
end ZG
section ZS
variable {CL : List vw_C} {p : Program} {l : Launch} {e : Env} {R : Room} {s : State} {m : MethodId} {args : Array Value} {below : List Frame} {meth : Method} {c : Code} {Q : State → Prop} {D : va_G} {cT : Nat → ClassId} {A : Nat → Prop} {nL : Nat} {ag : (Nat → Nat) → Prop}
variable {BIG : List Cond} {tF : Nat → Nat → FieldType} {HOST own : String} {cc : ByteArray} {ini : Bool} {gr : Option Nat} {rt : Option FieldType} {cl : Nat → Nat → Option zz_Y} {sw : Nat → List (Int32 × Nat)}
variable {k : zz_K} {ret : Option Value → List va_E → Nat → Nat → Prop} {xx : Nat → String → List (Option Value) → List va_E → Nat → Nat → Prop} {pc : Nat} {ls : List (Option Value)} {st : List Value} {ws : List va_E} {nc ns : Nat} {v : Int32} {w : Int64} {a b : Nat}

theorem zz_cat1 {ad : Nat → Nat} {x : Value} {n : Nat} (h : Nat.beq x.category n = true) : (zz_V ad x).category = n := (zz_V_cat ad x).trans (Nat.eq_of_beq_eq_true h)
theorem zz_bif {t : Bool} {P : Prop} (h : bif t then P else False) : t = true ∧ P := by
  cases t with
  | true => exact ⟨rfl, h⟩
  | false => exact False.elim h

theorem zz_i_iconst (hX : zz_X CL p R s m args meth c D cT A nL BIG tF own cc ini) {n : Int} (hok : zz_ok CL BIG HOST own cc nL ini sw pc (.iconst n) v w a b = true)
    (hk : ∀ pc ls st ws nc ns, k pc ls st ws nc ns → zz_G CL p l e R s m args below meth c Q D cT A nL ag pc ls st ws nc ns)
    (h : zz_i tF R.cells R.slots gr rt cl sw k ret xx pc ls st ws nc ns (.iconst n) v w a b) : zz_G CL p l e R s m args below meth c Q D cT A nL ag pc ls st ws nc ns := by
  obtain ⟨hx, hb, hml, hown, hts, hK, hA, hin, hSt, hRf, hRl⟩ := hX
  intro ad H locs lsA hag hP hD hS hL

  have hok := Bool.and_eq_true_iff.mp hok
  have hd := of_decide_eq_true hok.1
  have h2 := of_decide_eq_true hok.2
  exact lv_iconst hx hb hd h2 (hk _ _ _ _ _ _ h ad H locs lsA hag hP hD hS hL)

theorem zz_i_bipush (hX : zz_X CL p R s m args meth c D cT A nL BIG tF own cc ini) {n : Int} (hok : zz_ok CL BIG HOST own cc nL ini sw pc (.bipush n) v w a b = true)
    (hk : ∀ pc ls st ws nc ns, k pc ls st ws nc ns → zz_G CL p l e R s m args below meth c Q D cT A nL ag pc ls st ws nc ns)
    (h : zz_i tF R.cells R.slots gr rt cl sw k ret xx pc ls st ws nc ns (.bipush n) v w a b) : zz_G CL p l e R s m args below meth c Q D cT A nL ag pc ls st ws nc ns := by
  obtain ⟨hx, hb, hml, hown, hts, hK, hA, hin, hSt, hRf, hRl⟩ := hX
  intro ad H locs lsA hag hP hD hS hL

  have hok := Bool.and_eq_true_iff.mp hok
  have hd := of_decide_eq_true hok.1
  have h2 := of_decide_eq_true hok.2
  exact lv_bipush hx hb hd h2 (hk _ _ _ _ _ _ h ad H locs lsA hag hP hD hS hL)

theorem zz_i_sipush (hX : zz_X CL p R s m args meth c D cT A nL BIG tF own cc ini) {n : Int} (hok : zz_ok CL BIG HOST own cc nL ini sw pc (.sipush n) v w a b = true)
    (hk : ∀ pc ls st ws nc ns, k pc ls st ws nc ns → zz_G CL p l e R s m args below meth c Q D cT A nL ag pc ls st ws nc ns)
    (h : zz_i tF R.cells R.slots gr rt cl sw k ret xx pc ls st ws nc ns (.sipush n) v w a b) : zz_G CL p l e R s m args below meth c Q D cT A nL ag pc ls st ws nc ns := by
  obtain ⟨hx, hb, hml, hown, hts, hK, hA, hin, hSt, hRf, hRl⟩ := hX
  intro ad H locs lsA hag hP hD hS hL

  have hok := Bool.and_eq_true_iff.mp hok
  have hd := of_decide_eq_true hok.1
  have h2 := of_decide_eq_true hok.2
  exact lv_sipush hx hb hd h2 (hk _ _ _ _ _ _ h ad H locs lsA hag hP hD hS hL)

theorem zz_i_lconst (hX : zz_X CL p R s m args meth c D cT A nL BIG tF own cc ini) {n : Fin 2} (hok : zz_ok CL BIG HOST own cc nL ini sw pc (.lconst n) v w a b = true)
    (hk : ∀ pc ls st ws nc ns, k pc ls st ws nc ns → zz_G CL p l e R s m args below meth c Q D cT A nL ag pc ls st ws nc ns)
    (h : zz_i tF R.cells R.slots gr rt cl sw k ret xx pc ls st ws nc ns (.lconst n) v w a b) : zz_G CL p l e R s m args below meth c Q D cT A nL ag pc ls st ws nc ns := by
  obtain ⟨hx, hb, hml, hown, hts, hK, hA, hin, hSt, hRf, hRl⟩ := hX
  intro ad H locs lsA hag hP hD hS hL

  have hok := Bool.and_eq_true_iff.mp hok
  have hd := of_decide_eq_true hok.1
  have h2 := of_decide_eq_true hok.2
  exact lv_lconst hx hb hd h2 (hk _ _ _ _ _ _ h ad H locs lsA hag hP hD hS hL)

theorem zz_i_ldc (hX : zz_X CL p R s m args meth c D cT A nL BIG tF own cc ini) {n : Nat} (hok : zz_ok CL BIG HOST own cc nL ini sw pc (.ldc n) v w a b = true)
    (hk : ∀ pc ls st ws nc ns, k pc ls st ws nc ns → zz_G CL p l e R s m args below meth c Q D cT A nL ag pc ls st ws nc ns)
    (h : zz_i tF R.cells R.slots gr rt cl sw k ret xx pc ls st ws nc ns (.ldc n) v w a b) : zz_G CL p l e R s m args below meth c Q D cT A nL ag pc ls st ws nc ns := by
  obtain ⟨hx, hb, hml, hown, hts, hK, hA, hin, hSt, hRf, hRl⟩ := hX
  intro ad H locs lsA hag hP hD hS hL

  have hok := Bool.and_eq_true_iff.mp hok
  have hd := of_decide_eq_true hok.1
  have h2 := of_decide_eq_true hok.2
  exact lv_ldc hx hb hown (hts _ h2) hd (hk _ _ _ _ _ _ h ad H locs lsA hag hP hD hS hL)

theorem zz_i_ldc_w (hX : zz_X CL p R s m args meth c D cT A nL BIG tF own cc ini) {n : Nat} (hok : zz_ok CL BIG HOST own cc nL ini sw pc (.ldc_w n) v w a b = true)
    (hk : ∀ pc ls st ws nc ns, k pc ls st ws nc ns → zz_G CL p l e R s m args below meth c Q D cT A nL ag pc ls st ws nc ns)
    (h : zz_i tF R.cells R.slots gr rt cl sw k ret xx pc ls st ws nc ns (.ldc_w n) v w a b) : zz_G CL p l e R s m args below meth c Q D cT A nL ag pc ls st ws nc ns := by
  obtain ⟨hx, hb, hml, hown, hts, hK, hA, hin, hSt, hRf, hRl⟩ := hX
  intro ad H locs lsA hag hP hD hS hL

  have hok := Bool.and_eq_true_iff.mp hok
  have hd := of_decide_eq_true hok.1
  have h2 := of_decide_eq_true hok.2
  exact lv_ldcw hx hb hown (hts _ h2) hd (hk _ _ _ _ _ _ h ad H locs lsA hag hP hD hS hL)

theorem zz_i_ldc2_w (hX : zz_X CL p R s m args meth c D cT A nL BIG tF own cc ini) {n : Nat} (hok : zz_ok CL BIG HOST own cc nL ini sw pc (.ldc2_w n) v w a b = true)
    (hk : ∀ pc ls st ws nc ns, k pc ls st ws nc ns → zz_G CL p l e R s m args below meth c Q D cT A nL ag pc ls st ws nc ns)
    (h : zz_i tF R.cells R.slots gr rt cl sw k ret xx pc ls st ws nc ns (.ldc2_w n) v w a b) : zz_G CL p l e R s m args below meth c Q D cT A nL ag pc ls st ws nc ns := by
  obtain ⟨hx, hb, hml, hown, hts, hK, hA, hin, hSt, hRf, hRl⟩ := hX
  intro ad H locs lsA hag hP hD hS hL

  have hok := Bool.and_eq_true_iff.mp hok
  have hd := of_decide_eq_true hok.1
  have h2 := of_decide_eq_true hok.2
  exact lv_ldc2 hx hb hown (hts _ h2) hd (hk _ _ _ _ _ _ h ad H locs lsA hag hP hD hS hL)

theorem zz_i_iload_n (hX : zz_X CL p R s m args meth c D cT A nL BIG tF own cc ini) {n : Fin 4} (hok : zz_ok CL BIG HOST own cc nL ini sw pc (.iload_n n) v w a b = true)
    (hk : ∀ pc ls st ws nc ns, k pc ls st ws nc ns → zz_G CL p l e R s m args below meth c Q D cT A nL ag pc ls st ws nc ns)
    (h : zz_i tF R.cells R.slots gr rt cl sw k ret xx pc ls st ws nc ns (.iload_n n) v w a b) : zz_G CL p l e R s m args below meth c Q D cT A nL ag pc ls st ws nc ns := by
  obtain ⟨hx, hb, hml, hown, hts, hK, hA, hin, hSt, hRf, hRl⟩ := hX
  intro ad H locs lsA hag hP hD hS hL

  have hok := Bool.and_eq_true_iff.mp hok
  have hd := of_decide_eq_true hok.1
  have h2 := of_decide_eq_true hok.2
  dsimp only [zz_i] at h
  split at h
  · next x hq => exact lv_iload_n hx hb hd h2 (hL.at hq) (hk _ _ _ _ _ _ h ad H locs lsA hag hP hD hS hL)
  · exact h.elim

theorem zz_i_iload (hX : zz_X CL p R s m args meth c D cT A nL BIG tF own cc ini) {n : Nat} (hok : zz_ok CL BIG HOST own cc nL ini sw pc (.iload n) v w a b = true)
    (hk : ∀ pc ls st ws nc ns, k pc ls st ws nc ns → zz_G CL p l e R s m args below meth c Q D cT A nL ag pc ls st ws nc ns)
    (h : zz_i tF R.cells R.slots gr rt cl sw k ret xx pc ls st ws nc ns (.iload n) v w a b) : zz_G CL p l e R s m args below meth c Q D cT A nL ag pc ls st ws nc ns := by
  obtain ⟨hx, hb, hml, hown, hts, hK, hA, hin, hSt, hRf, hRl⟩ := hX
  intro ad H locs lsA hag hP hD hS hL

  have hok := Bool.and_eq_true_iff.mp hok
  have hd := of_decide_eq_true hok.1
  have h2 := of_decide_eq_true hok.2
  subst h2
  dsimp only [zz_i] at h
  split at h
  · next x hq => exact lv_iload hx hb hd (hL.at hq) (hk _ _ _ _ _ _ h ad H locs lsA hag hP hD hS hL)
  · exact h.elim

theorem zz_i_lload_n (hX : zz_X CL p R s m args meth c D cT A nL BIG tF own cc ini) {n : Fin 4} (hok : zz_ok CL BIG HOST own cc nL ini sw pc (.lload_n n) v w a b = true)
    (hk : ∀ pc ls st ws nc ns, k pc ls st ws nc ns → zz_G CL p l e R s m args below meth c Q D cT A nL ag pc ls st ws nc ns)
    (h : zz_i tF R.cells R.slots gr rt cl sw k ret xx pc ls st ws nc ns (.lload_n n) v w a b) : zz_G CL p l e R s m args below meth c Q D cT A nL ag pc ls st ws nc ns := by
  obtain ⟨hx, hb, hml, hown, hts, hK, hA, hin, hSt, hRf, hRl⟩ := hX
  intro ad H locs lsA hag hP hD hS hL

  have hok := Bool.and_eq_true_iff.mp hok
  have hd := of_decide_eq_true hok.1
  have h2 := of_decide_eq_true hok.2
  dsimp only [zz_i] at h
  split at h
  · next x hq => exact lv_lload_n hx hb hd h2 (hL.at hq) (hk _ _ _ _ _ _ h ad H locs lsA hag hP hD hS hL)
  · exact h.elim

theorem zz_i_lload (hX : zz_X CL p R s m args meth c D cT A nL BIG tF own cc ini) {n : Nat} (hok : zz_ok CL BIG HOST own cc nL ini sw pc (.lload n) v w a b = true)
    (hk : ∀ pc ls st ws nc ns, k pc ls st ws nc ns → zz_G CL p l e R s m args below meth c Q D cT A nL ag pc ls st ws nc ns)
    (h : zz_i tF R.cells R.slots gr rt cl sw k ret xx pc ls st ws nc ns (.lload n) v w a b) : zz_G CL p l e R s m args below meth c Q D cT A nL ag pc ls st ws nc ns := by
  obtain ⟨hx, hb, hml, hown, hts, hK, hA, hin, hSt, hRf, hRl⟩ := hX
  intro ad H locs lsA hag hP hD hS hL

  have hok := Bool.and_eq_true_iff.mp hok
  have hd := of_decide_eq_true hok.1
  have h2 := of_decide_eq_true hok.2
  subst h2
  dsimp only [zz_i] at h
  split at h
  · next x hq => exact lv_lload hx hb hd (hL.at hq) (hk _ _ _ _ _ _ h ad H locs lsA hag hP hD hS hL)
  · exact h.elim

theorem zz_i_aload_n (hX : zz_X CL p R s m args meth c D cT A nL BIG tF own cc ini) {n : Fin 4} (hok : zz_ok CL BIG HOST own cc nL ini sw pc (.aload_n n) v w a b = true)
    (hk : ∀ pc ls st ws nc ns, k pc ls st ws nc ns → zz_G CL p l e R s m args below meth c Q D cT A nL ag pc ls st ws nc ns)
    (h : zz_i tF R.cells R.slots gr rt cl sw k ret xx pc ls st ws nc ns (.aload_n n) v w a b) : zz_G CL p l e R s m args below meth c Q D cT A nL ag pc ls st ws nc ns := by
  obtain ⟨hx, hb, hml, hown, hts, hK, hA, hin, hSt, hRf, hRl⟩ := hX
  intro ad H locs lsA hag hP hD hS hL

  have hok := Bool.and_eq_true_iff.mp hok
  have hd := of_decide_eq_true hok.1
  have h2 := of_decide_eq_true hok.2
  dsimp only [zz_i] at h
  split at h
  · next x hq => exact lv_aload_n hx hb hd h2 (hL.at hq) (hk _ _ _ _ _ _ h ad H locs lsA hag hP hD hS hL)
  · exact h.elim

theorem zz_i_aload (hX : zz_X CL p R s m args meth c D cT A nL BIG tF own cc ini) {n : Nat} (hok : zz_ok CL BIG HOST own cc nL ini sw pc (.aload n) v w a b = true)
    (hk : ∀ pc ls st ws nc ns, k pc ls st ws nc ns → zz_G CL p l e R s m args below meth c Q D cT A nL ag pc ls st ws nc ns)
    (h : zz_i tF R.cells R.slots gr rt cl sw k ret xx pc ls st ws nc ns (.aload n) v w a b) : zz_G CL p l e R s m args below meth c Q D cT A nL ag pc ls st ws nc ns := by
  obtain ⟨hx, hb, hml, hown, hts, hK, hA, hin, hSt, hRf, hRl⟩ := hX
  intro ad H locs lsA hag hP hD hS hL

  have hok := Bool.and_eq_true_iff.mp hok
  have hd := of_decide_eq_true hok.1
  have h2 := of_decide_eq_true hok.2
  subst h2
  dsimp only [zz_i] at h
  split at h
  · next x hq => exact lv_aload hx hb hd (hL.at hq) (hk _ _ _ _ _ _ h ad H locs lsA hag hP hD hS hL)
  · exact h.elim

theorem zz_i_istore_n (hX : zz_X CL p R s m args meth c D cT A nL BIG tF own cc ini) {n : Fin 4} (hok : zz_ok CL BIG HOST own cc nL ini sw pc (.istore_n n) v w a b = true)
    (hk : ∀ pc ls st ws nc ns, k pc ls st ws nc ns → zz_G CL p l e R s m args below meth c Q D cT A nL ag pc ls st ws nc ns)
    (h : zz_i tF R.cells R.slots gr rt cl sw k ret xx pc ls st ws nc ns (.istore_n n) v w a b) : zz_G CL p l e R s m args below meth c Q D cT A nL ag pc ls st ws nc ns := by
  obtain ⟨hx, hb, hml, hown, hts, hK, hA, hin, hSt, hRf, hRl⟩ := hX
  intro ad H locs lsA hag hP hD hS hL

  have hok := Bool.and_eq_true_iff.mp hok
  have hd := of_decide_eq_true hok.1
  have h2 := of_decide_eq_true hok.2
  obtain ⟨h3, h4⟩ := h2
  dsimp only [zz_i] at h
  split at h
  · next x r =>
    obtain ⟨h9, h⟩ := zz_bif h
    exact lv_istore_n hx hb hd h3 hL.has h4 rfl (fun ls1 hl1 => hk _ _ _ _ _ _ h ad H locs ls1 hag hP hD hS (by rw [← zz_s1_nl h9]; exact zz_L.s1 (v := .int x) hL.1 hl1))
  · exact h.elim

theorem zz_i_istore (hX : zz_X CL p R s m args meth c D cT A nL BIG tF own cc ini) {n : Nat} (hok : zz_ok CL BIG HOST own cc nL ini sw pc (.istore n) v w a b = true)
    (hk : ∀ pc ls st ws nc ns, k pc ls st ws nc ns → zz_G CL p l e R s m args below meth c Q D cT A nL ag pc ls st ws nc ns)
    (h : zz_i tF R.cells R.slots gr rt cl sw k ret xx pc ls st ws nc ns (.istore n) v w a b) : zz_G CL p l e R s m args below meth c Q D cT A nL ag pc ls st ws nc ns := by
  obtain ⟨hx, hb, hml, hown, hts, hK, hA, hin, hSt, hRf, hRl⟩ := hX
  intro ad H locs lsA hag hP hD hS hL

  have hok := Bool.and_eq_true_iff.mp hok
  have hd := of_decide_eq_true hok.1
  have h2 := of_decide_eq_true hok.2
  obtain ⟨h3, h4⟩ := h2
  subst h3
  dsimp only [zz_i] at h
  split at h
  · next x r =>
    obtain ⟨h9, h⟩ := zz_bif h
    exact lv_istore hx hb hd hL.has h4 rfl (fun ls1 hl1 => hk _ _ _ _ _ _ h ad H locs ls1 hag hP hD hS (by rw [← zz_s1_nl h9]; exact zz_L.s1 (v := .int x) hL.1 hl1))
  · exact h.elim

theorem zz_i_astore_n (hX : zz_X CL p R s m args meth c D cT A nL BIG tF own cc ini) {n : Fin 4} (hok : zz_ok CL BIG HOST own cc nL ini sw pc (.astore_n n) v w a b = true)
    (hk : ∀ pc ls st ws nc ns, k pc ls st ws nc ns → zz_G CL p l e R s m args below meth c Q D cT A nL ag pc ls st ws nc ns)
    (h : zz_i tF R.cells R.slots gr rt cl sw k ret xx pc ls st ws nc ns (.astore_n n) v w a b) : zz_G CL p l e R s m args below meth c Q D cT A nL ag pc ls st ws nc ns := by
  obtain ⟨hx, hb, hml, hown, hts, hK, hA, hin, hSt, hRf, hRl⟩ := hX
  intro ad H locs lsA hag hP hD hS hL

  have hok := Bool.and_eq_true_iff.mp hok
  have hd := of_decide_eq_true hok.1
  have h2 := of_decide_eq_true hok.2
  obtain ⟨h3, h4⟩ := h2
  dsimp only [zz_i] at h
  split at h
  · next x r =>
    obtain ⟨h9, h⟩ := zz_bif h
    exact lv_astore_n hx hb hd h3 hL.has h4 rfl (fun ls1 hl1 => hk _ _ _ _ _ _ h ad H locs ls1 hag hP hD hS (by rw [← zz_s1_nl h9]; exact zz_L.s1 (v := .ref x) hL.1 hl1))
  · exact h.elim

theorem zz_i_astore (hX : zz_X CL p R s m args meth c D cT A nL BIG tF own cc ini) {n : Nat} (hok : zz_ok CL BIG HOST own cc nL ini sw pc (.astore n) v w a b = true)
    (hk : ∀ pc ls st ws nc ns, k pc ls st ws nc ns → zz_G CL p l e R s m args below meth c Q D cT A nL ag pc ls st ws nc ns)
    (h : zz_i tF R.cells R.slots gr rt cl sw k ret xx pc ls st ws nc ns (.astore n) v w a b) : zz_G CL p l e R s m args below meth c Q D cT A nL ag pc ls st ws nc ns := by
  obtain ⟨hx, hb, hml, hown, hts, hK, hA, hin, hSt, hRf, hRl⟩ := hX
  intro ad H locs lsA hag hP hD hS hL

  have hok := Bool.and_eq_true_iff.mp hok
  have hd := of_decide_eq_true hok.1
  have h2 := of_decide_eq_true hok.2
  obtain ⟨h3, h4⟩ := h2
  subst h3
  dsimp only [zz_i] at h
  split at h
  · next x r =>
    obtain ⟨h9, h⟩ := zz_bif h
    exact lv_astore hx hb hd hL.has h4 rfl (fun ls1 hl1 => hk _ _ _ _ _ _ h ad H locs ls1 hag hP hD hS (by rw [← zz_s1_nl h9]; exact zz_L.s1 (v := .ref x) hL.1 hl1))
  · exact h.elim

theorem zz_i_lstore_n (hX : zz_X CL p R s m args meth c D cT A nL BIG tF own cc ini) {n : Fin 4} (hok : zz_ok CL BIG HOST own cc nL ini sw pc (.lstore_n n) v w a b = true)
    (hk : ∀ pc ls st ws nc ns, k pc ls st ws nc ns → zz_G CL p l e R s m args below meth c Q D cT A nL ag pc ls st ws nc ns)
    (h : zz_i tF R.cells R.slots gr rt cl sw k ret xx pc ls st ws nc ns (.lstore_n n) v w a b) : zz_G CL p l e R s m args below meth c Q D cT A nL ag pc ls st ws nc ns := by
  obtain ⟨hx, hb, hml, hown, hts, hK, hA, hin, hSt, hRf, hRl⟩ := hX
  intro ad H locs lsA hag hP hD hS hL

  have hok := Bool.and_eq_true_iff.mp hok
  have hd := of_decide_eq_true hok.1
  have h2 := of_decide_eq_true hok.2
  obtain ⟨h3, h4⟩ := h2
  dsimp only [zz_i] at h
  split at h
  · next x r =>
    exact lv_lstore_n hx hb hd h3 hL.has h4 rfl (fun ls1 hl1 => hk _ _ _ _ _ _ h ad H locs ls1 hag hP hD hS (zz_L.s2 (v := .long x) hL.1 hl1))
  · exact h.elim

theorem zz_i_lstore (hX : zz_X CL p R s m args meth c D cT A nL BIG tF own cc ini) {n : Nat} (hok : zz_ok CL BIG HOST own cc nL ini sw pc (.lstore n) v w a b = true)
    (hk : ∀ pc ls st ws nc ns, k pc ls st ws nc ns → zz_G CL p l e R s m args below meth c Q D cT A nL ag pc ls st ws nc ns)
    (h : zz_i tF R.cells R.slots gr rt cl sw k ret xx pc ls st ws nc ns (.lstore n) v w a b) : zz_G CL p l e R s m args below meth c Q D cT A nL ag pc ls st ws nc ns := by
  obtain ⟨hx, hb, hml, hown, hts, hK, hA, hin, hSt, hRf, hRl⟩ := hX
  intro ad H locs lsA hag hP hD hS hL

  have hok := Bool.and_eq_true_iff.mp hok
  have hd := of_decide_eq_true hok.1
  have h2 := of_decide_eq_true hok.2
  obtain ⟨h3, h4⟩ := h2
  subst h3
  dsimp only [zz_i] at h
  split at h
  · next x r =>
    exact lv_lstore hx hb hd hL.has h4 rfl (fun ls1 hl1 => hk _ _ _ _ _ _ h ad H locs ls1 hag hP hD hS (zz_L.s2 (v := .long x) hL.1 hl1))
  · exact h.elim

theorem zz_i_iinc (hX : zz_X CL p R s m args meth c D cT A nL BIG tF own cc ini) {n : Nat} {d : Int} (hok : zz_ok CL BIG HOST own cc nL ini sw pc (.iinc n d) v w a b = true)
    (hk : ∀ pc ls st ws nc ns, k pc ls st ws nc ns → zz_G CL p l e R s m args below meth c Q D cT A nL ag pc ls st ws nc ns)
    (h : zz_i tF R.cells R.slots gr rt cl sw k ret xx pc ls st ws nc ns (.iinc n d) v w a b) : zz_G CL p l e R s m args below meth c Q D cT A nL ag pc ls st ws nc ns := by
  obtain ⟨hx, hb, hml, hown, hts, hK, hA, hin, hSt, hRf, hRl⟩ := hX
  intro ad H locs lsA hag hP hD hS hL

  have hok := Bool.and_eq_true_iff.mp hok
  have hd := of_decide_eq_true hok.1
  have h2 := of_decide_eq_true hok.2
  obtain ⟨h3, h4, h5⟩ := h2
  subst h3
  dsimp only [zz_i] at h
  split at h
  · next x hq =>
    obtain ⟨h9, h⟩ := zz_bif h
    obtain ⟨j, hj⟩ := List.mem_iff_getElem?.mp (zz_pr_mem (q := (n, .int x)) |>.mpr ⟨.int x, hq, rfl⟩)
    exact lv_iinc hx hb hd hL.has (k := j) hj (by rw [h5]) h4 rfl (fun ls1 hl1 => hk _ _ _ _ _ _ h ad H locs ls1 hag hP hD hS (by rw [← zz_s1_nl h9]; exact zz_L.s1 (v := .int (x + v)) hL.1 hl1))
  · exact h.elim

theorem zz_i_iadd (hX : zz_X CL p R s m args meth c D cT A nL BIG tF own cc ini)  (hok : zz_ok CL BIG HOST own cc nL ini sw pc (.iadd) v w a b = true)
    (hk : ∀ pc ls st ws nc ns, k pc ls st ws nc ns → zz_G CL p l e R s m args below meth c Q D cT A nL ag pc ls st ws nc ns)
    (h : zz_i tF R.cells R.slots gr rt cl sw k ret xx pc ls st ws nc ns (.iadd) v w a b) : zz_G CL p l e R s m args below meth c Q D cT A nL ag pc ls st ws nc ns := by
  obtain ⟨hx, hb, hml, hown, hts, hK, hA, hin, hSt, hRf, hRl⟩ := hX
  intro ad H locs lsA hag hP hD hS hL

  have hd := of_decide_eq_true hok
  dsimp only [zz_i] at h
  split at h
  · next y x r => exact lv_iadd hx hb hd (hk _ _ _ _ _ _ h ad H locs lsA hag hP hD hS hL)
  · exact h.elim

theorem zz_i_isub (hX : zz_X CL p R s m args meth c D cT A nL BIG tF own cc ini)  (hok : zz_ok CL BIG HOST own cc nL ini sw pc (.isub) v w a b = true)
    (hk : ∀ pc ls st ws nc ns, k pc ls st ws nc ns → zz_G CL p l e R s m args below meth c Q D cT A nL ag pc ls st ws nc ns)
    (h : zz_i tF R.cells R.slots gr rt cl sw k ret xx pc ls st ws nc ns (.isub) v w a b) : zz_G CL p l e R s m args below meth c Q D cT A nL ag pc ls st ws nc ns := by
  obtain ⟨hx, hb, hml, hown, hts, hK, hA, hin, hSt, hRf, hRl⟩ := hX
  intro ad H locs lsA hag hP hD hS hL

  have hd := of_decide_eq_true hok
  dsimp only [zz_i] at h
  split at h
  · next y x r => exact lv_isub hx hb hd (hk _ _ _ _ _ _ h ad H locs lsA hag hP hD hS hL)
  · exact h.elim

theorem zz_i_imul (hX : zz_X CL p R s m args meth c D cT A nL BIG tF own cc ini)  (hok : zz_ok CL BIG HOST own cc nL ini sw pc (.imul) v w a b = true)
    (hk : ∀ pc ls st ws nc ns, k pc ls st ws nc ns → zz_G CL p l e R s m args below meth c Q D cT A nL ag pc ls st ws nc ns)
    (h : zz_i tF R.cells R.slots gr rt cl sw k ret xx pc ls st ws nc ns (.imul) v w a b) : zz_G CL p l e R s m args below meth c Q D cT A nL ag pc ls st ws nc ns := by
  obtain ⟨hx, hb, hml, hown, hts, hK, hA, hin, hSt, hRf, hRl⟩ := hX
  intro ad H locs lsA hag hP hD hS hL

  have hd := of_decide_eq_true hok
  dsimp only [zz_i] at h
  split at h
  · next y x r => exact lv_imul hx hb hd (hk _ _ _ _ _ _ h ad H locs lsA hag hP hD hS hL)
  · exact h.elim

theorem zz_i_iand (hX : zz_X CL p R s m args meth c D cT A nL BIG tF own cc ini)  (hok : zz_ok CL BIG HOST own cc nL ini sw pc (.iand) v w a b = true)
    (hk : ∀ pc ls st ws nc ns, k pc ls st ws nc ns → zz_G CL p l e R s m args below meth c Q D cT A nL ag pc ls st ws nc ns)
    (h : zz_i tF R.cells R.slots gr rt cl sw k ret xx pc ls st ws nc ns (.iand) v w a b) : zz_G CL p l e R s m args below meth c Q D cT A nL ag pc ls st ws nc ns := by
  obtain ⟨hx, hb, hml, hown, hts, hK, hA, hin, hSt, hRf, hRl⟩ := hX
  intro ad H locs lsA hag hP hD hS hL

  have hd := of_decide_eq_true hok
  dsimp only [zz_i] at h
  split at h
  · next y x r => exact lv_iand hx hb hd (hk _ _ _ _ _ _ h ad H locs lsA hag hP hD hS hL)
  · exact h.elim

theorem zz_i_ior (hX : zz_X CL p R s m args meth c D cT A nL BIG tF own cc ini)  (hok : zz_ok CL BIG HOST own cc nL ini sw pc (.ior) v w a b = true)
    (hk : ∀ pc ls st ws nc ns, k pc ls st ws nc ns → zz_G CL p l e R s m args below meth c Q D cT A nL ag pc ls st ws nc ns)
    (h : zz_i tF R.cells R.slots gr rt cl sw k ret xx pc ls st ws nc ns (.ior) v w a b) : zz_G CL p l e R s m args below meth c Q D cT A nL ag pc ls st ws nc ns := by
  obtain ⟨hx, hb, hml, hown, hts, hK, hA, hin, hSt, hRf, hRl⟩ := hX
  intro ad H locs lsA hag hP hD hS hL

  have hd := of_decide_eq_true hok
  dsimp only [zz_i] at h
  split at h
  · next y x r => exact lv_ior hx hb hd (hk _ _ _ _ _ _ h ad H locs lsA hag hP hD hS hL)
  · exact h.elim

theorem zz_i_ixor (hX : zz_X CL p R s m args meth c D cT A nL BIG tF own cc ini)  (hok : zz_ok CL BIG HOST own cc nL ini sw pc (.ixor) v w a b = true)
    (hk : ∀ pc ls st ws nc ns, k pc ls st ws nc ns → zz_G CL p l e R s m args below meth c Q D cT A nL ag pc ls st ws nc ns)
    (h : zz_i tF R.cells R.slots gr rt cl sw k ret xx pc ls st ws nc ns (.ixor) v w a b) : zz_G CL p l e R s m args below meth c Q D cT A nL ag pc ls st ws nc ns := by
  obtain ⟨hx, hb, hml, hown, hts, hK, hA, hin, hSt, hRf, hRl⟩ := hX
  intro ad H locs lsA hag hP hD hS hL

  have hd := of_decide_eq_true hok
  dsimp only [zz_i] at h
  split at h
  · next y x r => exact lv_ixor hx hb hd (hk _ _ _ _ _ _ h ad H locs lsA hag hP hD hS hL)
  · exact h.elim

theorem zz_i_ishl (hX : zz_X CL p R s m args meth c D cT A nL BIG tF own cc ini)  (hok : zz_ok CL BIG HOST own cc nL ini sw pc (.ishl) v w a b = true)
    (hk : ∀ pc ls st ws nc ns, k pc ls st ws nc ns → zz_G CL p l e R s m args below meth c Q D cT A nL ag pc ls st ws nc ns)
    (h : zz_i tF R.cells R.slots gr rt cl sw k ret xx pc ls st ws nc ns (.ishl) v w a b) : zz_G CL p l e R s m args below meth c Q D cT A nL ag pc ls st ws nc ns := by
  obtain ⟨hx, hb, hml, hown, hts, hK, hA, hin, hSt, hRf, hRl⟩ := hX
  intro ad H locs lsA hag hP hD hS hL

  have hd := of_decide_eq_true hok
  dsimp only [zz_i] at h
  split at h
  · next y x r => exact lv_ishl hx hb hd (hk _ _ _ _ _ _ h ad H locs lsA hag hP hD hS hL)
  · exact h.elim

theorem zz_i_ishr (hX : zz_X CL p R s m args meth c D cT A nL BIG tF own cc ini)  (hok : zz_ok CL BIG HOST own cc nL ini sw pc (.ishr) v w a b = true)
    (hk : ∀ pc ls st ws nc ns, k pc ls st ws nc ns → zz_G CL p l e R s m args below meth c Q D cT A nL ag pc ls st ws nc ns)
    (h : zz_i tF R.cells R.slots gr rt cl sw k ret xx pc ls st ws nc ns (.ishr) v w a b) : zz_G CL p l e R s m args below meth c Q D cT A nL ag pc ls st ws nc ns := by
  obtain ⟨hx, hb, hml, hown, hts, hK, hA, hin, hSt, hRf, hRl⟩ := hX
  intro ad H locs lsA hag hP hD hS hL

  have hd := of_decide_eq_true hok
  dsimp only [zz_i] at h
  split at h
  · next y x r => exact lv_ishr hx hb hd (hk _ _ _ _ _ _ h ad H locs lsA hag hP hD hS hL)
  · exact h.elim

theorem zz_i_ladd (hX : zz_X CL p R s m args meth c D cT A nL BIG tF own cc ini)  (hok : zz_ok CL BIG HOST own cc nL ini sw pc (.ladd) v w a b = true)
    (hk : ∀ pc ls st ws nc ns, k pc ls st ws nc ns → zz_G CL p l e R s m args below meth c Q D cT A nL ag pc ls st ws nc ns)
    (h : zz_i tF R.cells R.slots gr rt cl sw k ret xx pc ls st ws nc ns (.ladd) v w a b) : zz_G CL p l e R s m args below meth c Q D cT A nL ag pc ls st ws nc ns := by
  obtain ⟨hx, hb, hml, hown, hts, hK, hA, hin, hSt, hRf, hRl⟩ := hX
  intro ad H locs lsA hag hP hD hS hL

  have hd := of_decide_eq_true hok
  dsimp only [zz_i] at h
  split at h
  · next y x r => exact lv_ladd hx hb hd (hk _ _ _ _ _ _ h ad H locs lsA hag hP hD hS hL)
  · exact h.elim

theorem zz_i_lsub (hX : zz_X CL p R s m args meth c D cT A nL BIG tF own cc ini)  (hok : zz_ok CL BIG HOST own cc nL ini sw pc (.lsub) v w a b = true)
    (hk : ∀ pc ls st ws nc ns, k pc ls st ws nc ns → zz_G CL p l e R s m args below meth c Q D cT A nL ag pc ls st ws nc ns)
    (h : zz_i tF R.cells R.slots gr rt cl sw k ret xx pc ls st ws nc ns (.lsub) v w a b) : zz_G CL p l e R s m args below meth c Q D cT A nL ag pc ls st ws nc ns := by
  obtain ⟨hx, hb, hml, hown, hts, hK, hA, hin, hSt, hRf, hRl⟩ := hX
  intro ad H locs lsA hag hP hD hS hL

  have hd := of_decide_eq_true hok
  dsimp only [zz_i] at h
  split at h
  · next y x r => exact lv_lsub hx hb hd (hk _ _ _ _ _ _ h ad H locs lsA hag hP hD hS hL)
  · exact h.elim

theorem zz_i_land (hX : zz_X CL p R s m args meth c D cT A nL BIG tF own cc ini)  (hok : zz_ok CL BIG HOST own cc nL ini sw pc (.land) v w a b = true)
    (hk : ∀ pc ls st ws nc ns, k pc ls st ws nc ns → zz_G CL p l e R s m args below meth c Q D cT A nL ag pc ls st ws nc ns)
    (h : zz_i tF R.cells R.slots gr rt cl sw k ret xx pc ls st ws nc ns (.land) v w a b) : zz_G CL p l e R s m args below meth c Q D cT A nL ag pc ls st ws nc ns := by
  obtain ⟨hx, hb, hml, hown, hts, hK, hA, hin, hSt, hRf, hRl⟩ := hX
  intro ad H locs lsA hag hP hD hS hL

  have hd := of_decide_eq_true hok
  dsimp only [zz_i] at h
  split at h
  · next y x r => exact lv_land hx hb hd (hk _ _ _ _ _ _ h ad H locs lsA hag hP hD hS hL)
  · exact h.elim

theorem zz_i_lor (hX : zz_X CL p R s m args meth c D cT A nL BIG tF own cc ini)  (hok : zz_ok CL BIG HOST own cc nL ini sw pc (.lor) v w a b = true)
    (hk : ∀ pc ls st ws nc ns, k pc ls st ws nc ns → zz_G CL p l e R s m args below meth c Q D cT A nL ag pc ls st ws nc ns)
    (h : zz_i tF R.cells R.slots gr rt cl sw k ret xx pc ls st ws nc ns (.lor) v w a b) : zz_G CL p l e R s m args below meth c Q D cT A nL ag pc ls st ws nc ns := by
  obtain ⟨hx, hb, hml, hown, hts, hK, hA, hin, hSt, hRf, hRl⟩ := hX
  intro ad H locs lsA hag hP hD hS hL

  have hd := of_decide_eq_true hok
  dsimp only [zz_i] at h
  split at h
  · next y x r => exact lv_lor hx hb hd (hk _ _ _ _ _ _ h ad H locs lsA hag hP hD hS hL)
  · exact h.elim

theorem zz_i_lxor (hX : zz_X CL p R s m args meth c D cT A nL BIG tF own cc ini)  (hok : zz_ok CL BIG HOST own cc nL ini sw pc (.lxor) v w a b = true)
    (hk : ∀ pc ls st ws nc ns, k pc ls st ws nc ns → zz_G CL p l e R s m args below meth c Q D cT A nL ag pc ls st ws nc ns)
    (h : zz_i tF R.cells R.slots gr rt cl sw k ret xx pc ls st ws nc ns (.lxor) v w a b) : zz_G CL p l e R s m args below meth c Q D cT A nL ag pc ls st ws nc ns := by
  obtain ⟨hx, hb, hml, hown, hts, hK, hA, hin, hSt, hRf, hRl⟩ := hX
  intro ad H locs lsA hag hP hD hS hL

  have hd := of_decide_eq_true hok
  dsimp only [zz_i] at h
  split at h
  · next y x r => exact lv_lxor hx hb hd (hk _ _ _ _ _ _ h ad H locs lsA hag hP hD hS hL)
  · exact h.elim

theorem zz_i_lshl (hX : zz_X CL p R s m args meth c D cT A nL BIG tF own cc ini)  (hok : zz_ok CL BIG HOST own cc nL ini sw pc (.lshl) v w a b = true)
    (hk : ∀ pc ls st ws nc ns, k pc ls st ws nc ns → zz_G CL p l e R s m args below meth c Q D cT A nL ag pc ls st ws nc ns)
    (h : zz_i tF R.cells R.slots gr rt cl sw k ret xx pc ls st ws nc ns (.lshl) v w a b) : zz_G CL p l e R s m args below meth c Q D cT A nL ag pc ls st ws nc ns := by
  obtain ⟨hx, hb, hml, hown, hts, hK, hA, hin, hSt, hRf, hRl⟩ := hX
  intro ad H locs lsA hag hP hD hS hL

  have hd := of_decide_eq_true hok
  dsimp only [zz_i] at h
  split at h
  · next y x r => exact lv_lshl hx hb hd rfl (hk _ _ _ _ _ _ h ad H locs lsA hag hP hD hS hL)
  · exact h.elim

theorem zz_i_lshr (hX : zz_X CL p R s m args meth c D cT A nL BIG tF own cc ini)  (hok : zz_ok CL BIG HOST own cc nL ini sw pc (.lshr) v w a b = true)
    (hk : ∀ pc ls st ws nc ns, k pc ls st ws nc ns → zz_G CL p l e R s m args below meth c Q D cT A nL ag pc ls st ws nc ns)
    (h : zz_i tF R.cells R.slots gr rt cl sw k ret xx pc ls st ws nc ns (.lshr) v w a b) : zz_G CL p l e R s m args below meth c Q D cT A nL ag pc ls st ws nc ns := by
  obtain ⟨hx, hb, hml, hown, hts, hK, hA, hin, hSt, hRf, hRl⟩ := hX
  intro ad H locs lsA hag hP hD hS hL

  have hd := of_decide_eq_true hok
  dsimp only [zz_i] at h
  split at h
  · next y x r => exact lv_lshr hx hb hd rfl (hk _ _ _ _ _ _ h ad H locs lsA hag hP hD hS hL)
  · exact h.elim

theorem zz_i_lushr (hX : zz_X CL p R s m args meth c D cT A nL BIG tF own cc ini)  (hok : zz_ok CL BIG HOST own cc nL ini sw pc (.lushr) v w a b = true)
    (hk : ∀ pc ls st ws nc ns, k pc ls st ws nc ns → zz_G CL p l e R s m args below meth c Q D cT A nL ag pc ls st ws nc ns)
    (h : zz_i tF R.cells R.slots gr rt cl sw k ret xx pc ls st ws nc ns (.lushr) v w a b) : zz_G CL p l e R s m args below meth c Q D cT A nL ag pc ls st ws nc ns := by
  obtain ⟨hx, hb, hml, hown, hts, hK, hA, hin, hSt, hRf, hRl⟩ := hX
  intro ad H locs lsA hag hP hD hS hL

  have hd := of_decide_eq_true hok
  dsimp only [zz_i] at h
  split at h
  · next y x r => exact lv_lushr hx hb hd rfl (hk _ _ _ _ _ _ h ad H locs lsA hag hP hD hS hL)
  · exact h.elim

theorem zz_i_iushr (hX : zz_X CL p R s m args meth c D cT A nL BIG tF own cc ini)  (hok : zz_ok CL BIG HOST own cc nL ini sw pc (.iushr) v w a b = true)
    (hk : ∀ pc ls st ws nc ns, k pc ls st ws nc ns → zz_G CL p l e R s m args below meth c Q D cT A nL ag pc ls st ws nc ns)
    (h : zz_i tF R.cells R.slots gr rt cl sw k ret xx pc ls st ws nc ns (.iushr) v w a b) : zz_G CL p l e R s m args below meth c Q D cT A nL ag pc ls st ws nc ns := by
  obtain ⟨hx, hb, hml, hown, hts, hK, hA, hin, hSt, hRf, hRl⟩ := hX
  intro ad H locs lsA hag hP hD hS hL

  have hd := of_decide_eq_true hok
  dsimp only [zz_i] at h
  split at h
  · next y x r => exact lv_iushr hx hb hd rfl (hk _ _ _ _ _ _ h ad H locs lsA hag hP hD hS hL)
  · exact h.elim

theorem zz_i_idiv (hX : zz_X CL p R s m args meth c D cT A nL BIG tF own cc ini)  (hok : zz_ok CL BIG HOST own cc nL ini sw pc (.idiv) v w a b = true)
    (hk : ∀ pc ls st ws nc ns, k pc ls st ws nc ns → zz_G CL p l e R s m args below meth c Q D cT A nL ag pc ls st ws nc ns)
    (h : zz_i tF R.cells R.slots gr rt cl sw k ret xx pc ls st ws nc ns (.idiv) v w a b) : zz_G CL p l e R s m args below meth c Q D cT A nL ag pc ls st ws nc ns := by
  obtain ⟨hx, hb, hml, hown, hts, hK, hA, hin, hSt, hRf, hRl⟩ := hX
  intro ad H locs lsA hag hP hD hS hL

  have hd := of_decide_eq_true hok
  dsimp only [zz_i] at h
  split at h
  · next y x r => exact lv_idiv hx hb hd h.1 (hk _ _ _ _ _ _ h.2 ad H locs lsA hag hP hD hS hL)
  · exact h.elim

theorem zz_i_irem (hX : zz_X CL p R s m args meth c D cT A nL BIG tF own cc ini)  (hok : zz_ok CL BIG HOST own cc nL ini sw pc (.irem) v w a b = true)
    (hk : ∀ pc ls st ws nc ns, k pc ls st ws nc ns → zz_G CL p l e R s m args below meth c Q D cT A nL ag pc ls st ws nc ns)
    (h : zz_i tF R.cells R.slots gr rt cl sw k ret xx pc ls st ws nc ns (.irem) v w a b) : zz_G CL p l e R s m args below meth c Q D cT A nL ag pc ls st ws nc ns := by
  obtain ⟨hx, hb, hml, hown, hts, hK, hA, hin, hSt, hRf, hRl⟩ := hX
  intro ad H locs lsA hag hP hD hS hL

  have hd := of_decide_eq_true hok
  dsimp only [zz_i] at h
  split at h
  · next y x r => exact lv_irem hx hb hd h.1 (hk _ _ _ _ _ _ h.2 ad H locs lsA hag hP hD hS hL)
  · exact h.elim

theorem zz_i_ineg (hX : zz_X CL p R s m args meth c D cT A nL BIG tF own cc ini)  (hok : zz_ok CL BIG HOST own cc nL ini sw pc (.ineg) v w a b = true)
    (hk : ∀ pc ls st ws nc ns, k pc ls st ws nc ns → zz_G CL p l e R s m args below meth c Q D cT A nL ag pc ls st ws nc ns)
    (h : zz_i tF R.cells R.slots gr rt cl sw k ret xx pc ls st ws nc ns (.ineg) v w a b) : zz_G CL p l e R s m args below meth c Q D cT A nL ag pc ls st ws nc ns := by
  obtain ⟨hx, hb, hml, hown, hts, hK, hA, hin, hSt, hRf, hRl⟩ := hX
  intro ad H locs lsA hag hP hD hS hL

  have hd := of_decide_eq_true hok
  dsimp only [zz_i] at h
  split at h
  · next x r => exact lv_ineg hx hb hd (hk _ _ _ _ _ _ h ad H locs lsA hag hP hD hS hL)
  · exact h.elim

theorem zz_i_i2l (hX : zz_X CL p R s m args meth c D cT A nL BIG tF own cc ini)  (hok : zz_ok CL BIG HOST own cc nL ini sw pc (.i2l) v w a b = true)
    (hk : ∀ pc ls st ws nc ns, k pc ls st ws nc ns → zz_G CL p l e R s m args below meth c Q D cT A nL ag pc ls st ws nc ns)
    (h : zz_i tF R.cells R.slots gr rt cl sw k ret xx pc ls st ws nc ns (.i2l) v w a b) : zz_G CL p l e R s m args below meth c Q D cT A nL ag pc ls st ws nc ns := by
  obtain ⟨hx, hb, hml, hown, hts, hK, hA, hin, hSt, hRf, hRl⟩ := hX
  intro ad H locs lsA hag hP hD hS hL

  have hd := of_decide_eq_true hok
  dsimp only [zz_i] at h
  split at h
  · next x r => exact lv_i2l hx hb hd rfl (hk _ _ _ _ _ _ h ad H locs lsA hag hP hD hS hL)
  · exact h.elim

theorem zz_i_l2i (hX : zz_X CL p R s m args meth c D cT A nL BIG tF own cc ini)  (hok : zz_ok CL BIG HOST own cc nL ini sw pc (.l2i) v w a b = true)
    (hk : ∀ pc ls st ws nc ns, k pc ls st ws nc ns → zz_G CL p l e R s m args below meth c Q D cT A nL ag pc ls st ws nc ns)
    (h : zz_i tF R.cells R.slots gr rt cl sw k ret xx pc ls st ws nc ns (.l2i) v w a b) : zz_G CL p l e R s m args below meth c Q D cT A nL ag pc ls st ws nc ns := by
  obtain ⟨hx, hb, hml, hown, hts, hK, hA, hin, hSt, hRf, hRl⟩ := hX
  intro ad H locs lsA hag hP hD hS hL

  have hd := of_decide_eq_true hok
  dsimp only [zz_i] at h
  split at h
  · next x r => exact lv_l2i hx hb hd rfl (hk _ _ _ _ _ _ h ad H locs lsA hag hP hD hS hL)
  · exact h.elim

theorem zz_i_lcmp (hX : zz_X CL p R s m args meth c D cT A nL BIG tF own cc ini)  (hok : zz_ok CL BIG HOST own cc nL ini sw pc (.lcmp) v w a b = true)
    (hk : ∀ pc ls st ws nc ns, k pc ls st ws nc ns → zz_G CL p l e R s m args below meth c Q D cT A nL ag pc ls st ws nc ns)
    (h : zz_i tF R.cells R.slots gr rt cl sw k ret xx pc ls st ws nc ns (.lcmp) v w a b) : zz_G CL p l e R s m args below meth c Q D cT A nL ag pc ls st ws nc ns := by
  obtain ⟨hx, hb, hml, hown, hts, hK, hA, hin, hSt, hRf, hRl⟩ := hX
  intro ad H locs lsA hag hP hD hS hL

  have hd := of_decide_eq_true hok
  dsimp only [zz_i] at h
  split at h
  · next y x r => exact W.lcmp hx hb hd (hk _ _ _ _ _ _ h ad H locs lsA hag hP hD hS hL)
  · exact h.elim

theorem zz_i_dup (hX : zz_X CL p R s m args meth c D cT A nL BIG tF own cc ini)  (hok : zz_ok CL BIG HOST own cc nL ini sw pc (.dup) v w a b = true)
    (hk : ∀ pc ls st ws nc ns, k pc ls st ws nc ns → zz_G CL p l e R s m args below meth c Q D cT A nL ag pc ls st ws nc ns)
    (h : zz_i tF R.cells R.slots gr rt cl sw k ret xx pc ls st ws nc ns (.dup) v w a b) : zz_G CL p l e R s m args below meth c Q D cT A nL ag pc ls st ws nc ns := by
  obtain ⟨hx, hb, hml, hown, hts, hK, hA, hin, hSt, hRf, hRl⟩ := hX
  intro ad H locs lsA hag hP hD hS hL

  have hd := of_decide_eq_true hok
  dsimp only [zz_i] at h
  split at h
  · next x r =>
    obtain ⟨h1, h⟩ := zz_bif h
    exact lv_dup hx hb hd (zz_cat1 h1) (hk _ _ _ _ _ _ h ad H locs lsA hag hP hD hS hL)
  · exact h.elim

theorem zz_i_pop (hX : zz_X CL p R s m args meth c D cT A nL BIG tF own cc ini)  (hok : zz_ok CL BIG HOST own cc nL ini sw pc (.pop) v w a b = true)
    (hk : ∀ pc ls st ws nc ns, k pc ls st ws nc ns → zz_G CL p l e R s m args below meth c Q D cT A nL ag pc ls st ws nc ns)
    (h : zz_i tF R.cells R.slots gr rt cl sw k ret xx pc ls st ws nc ns (.pop) v w a b) : zz_G CL p l e R s m args below meth c Q D cT A nL ag pc ls st ws nc ns := by
  obtain ⟨hx, hb, hml, hown, hts, hK, hA, hin, hSt, hRf, hRl⟩ := hX
  intro ad H locs lsA hag hP hD hS hL

  have hd := of_decide_eq_true hok
  dsimp only [zz_i] at h
  split at h
  · next x r =>
    obtain ⟨h1, h⟩ := zz_bif h
    exact lv_pop hx hb hd (zz_cat1 h1) (hk _ _ _ _ _ _ h ad H locs lsA hag hP hD hS hL)
  · exact h.elim

theorem zz_i_dup_x1 (hX : zz_X CL p R s m args meth c D cT A nL BIG tF own cc ini)  (hok : zz_ok CL BIG HOST own cc nL ini sw pc (.dup_x1) v w a b = true)
    (hk : ∀ pc ls st ws nc ns, k pc ls st ws nc ns → zz_G CL p l e R s m args below meth c Q D cT A nL ag pc ls st ws nc ns)
    (h : zz_i tF R.cells R.slots gr rt cl sw k ret xx pc ls st ws nc ns (.dup_x1) v w a b) : zz_G CL p l e R s m args below meth c Q D cT A nL ag pc ls st ws nc ns := by
  obtain ⟨hx, hb, hml, hown, hts, hK, hA, hin, hSt, hRf, hRl⟩ := hX
  intro ad H locs lsA hag hP hD hS hL

  have hd := of_decide_eq_true hok
  dsimp only [zz_i] at h
  split at h
  · next x y r =>
    obtain ⟨h1, h⟩ := zz_bif h
    obtain ⟨h1, h2⟩ := Bool.and_eq_true_iff.mp h1
    exact lv_dup_x1 hx hb hd (zz_cat1 h1) (zz_cat1 h2) (hk _ _ _ _ _ _ h ad H locs lsA hag hP hD hS hL)
  · exact h.elim

theorem zz_i_dup_x2 (hX : zz_X CL p R s m args meth c D cT A nL BIG tF own cc ini)  (hok : zz_ok CL BIG HOST own cc nL ini sw pc (.dup_x2) v w a b = true)
    (hk : ∀ pc ls st ws nc ns, k pc ls st ws nc ns → zz_G CL p l e R s m args below meth c Q D cT A nL ag pc ls st ws nc ns)
    (h : zz_i tF R.cells R.slots gr rt cl sw k ret xx pc ls st ws nc ns (.dup_x2) v w a b) : zz_G CL p l e R s m args below meth c Q D cT A nL ag pc ls st ws nc ns := by
  obtain ⟨hx, hb, hml, hown, hts, hK, hA, hin, hSt, hRf, hRl⟩ := hX
  intro ad H locs lsA hag hP hD hS hL

  have hd := of_decide_eq_true hok
  dsimp only [zz_i] at h
  split at h
  · next x y z r =>
    obtain ⟨h1, h⟩ := zz_bif h
    obtain ⟨h1, h2⟩ := Bool.and_eq_true_iff.mp h1
    obtain ⟨h2, h3⟩ := Bool.and_eq_true_iff.mp h2
    exact lv_dup_x2 hx hb hd (zz_cat1 h1) (zz_cat1 h2) (zz_cat1 h3) (hk _ _ _ _ _ _ h ad H locs lsA hag hP hD hS hL)
  · exact h.elim

theorem zz_i_dup2 (hX : zz_X CL p R s m args meth c D cT A nL BIG tF own cc ini)  (hok : zz_ok CL BIG HOST own cc nL ini sw pc (.dup2) v w a b = true)
    (hk : ∀ pc ls st ws nc ns, k pc ls st ws nc ns → zz_G CL p l e R s m args below meth c Q D cT A nL ag pc ls st ws nc ns)
    (h : zz_i tF R.cells R.slots gr rt cl sw k ret xx pc ls st ws nc ns (.dup2) v w a b) : zz_G CL p l e R s m args below meth c Q D cT A nL ag pc ls st ws nc ns := by
  obtain ⟨hx, hb, hml, hown, hts, hK, hA, hin, hSt, hRf, hRl⟩ := hX
  intro ad H locs lsA hag hP hD hS hL

  have hd := of_decide_eq_true hok
  dsimp only [zz_i] at h
  split at h
  · next x r =>
    cases h1 : Nat.beq x.category 2 with
    | true =>
      rw [h1] at h
      exact lv_dup2_2 hx hb hd (zz_cat1 h1) (hk _ _ _ _ _ _ h ad H locs lsA hag hP hD hS hL)
    | false =>
      rw [h1] at h
      dsimp only [cond_false] at h
      split at h
      · next y r =>
        obtain ⟨h1, h⟩ := zz_bif h
        obtain ⟨h1, h2⟩ := Bool.and_eq_true_iff.mp h1
        exact lv_dup2_11 hx hb hd (zz_cat1 h1) (zz_cat1 h2) (hk _ _ _ _ _ _ h ad H locs lsA hag hP hD hS hL)
      · exact h.elim
  · exact h.elim

theorem zz_i_goto (hX : zz_X CL p R s m args meth c D cT A nL BIG tF own cc ini) {o : Int} (hok : zz_ok CL BIG HOST own cc nL ini sw pc (.goto o) v w a b = true)
    (hk : ∀ pc ls st ws nc ns, k pc ls st ws nc ns → zz_G CL p l e R s m args below meth c Q D cT A nL ag pc ls st ws nc ns)
    (h : zz_i tF R.cells R.slots gr rt cl sw k ret xx pc ls st ws nc ns (.goto o) v w a b) : zz_G CL p l e R s m args below meth c Q D cT A nL ag pc ls st ws nc ns := by
  obtain ⟨hx, hb, hml, hown, hts, hK, hA, hin, hSt, hRf, hRl⟩ := hX
  intro ad H locs lsA hag hP hD hS hL

  have hok := Bool.and_eq_true_iff.mp hok
  have hd := of_decide_eq_true hok.1
  have h2 := of_decide_eq_true hok.2
  exact lv_goto hx hb hd h2 (hk _ _ _ _ _ _ h ad H locs lsA hag hP hD hS hL)

theorem zz_i_ifCond (hX : zz_X CL p R s m args meth c D cT A nL BIG tF own cc ini) {q : ClassFile.Cond} {o : Int} (hok : zz_ok CL BIG HOST own cc nL ini sw pc (.ifCond q o) v w a b = true)
    (hk : ∀ pc ls st ws nc ns, k pc ls st ws nc ns → zz_G CL p l e R s m args below meth c Q D cT A nL ag pc ls st ws nc ns)
    (h : zz_i tF R.cells R.slots gr rt cl sw k ret xx pc ls st ws nc ns (.ifCond q o) v w a b) : zz_G CL p l e R s m args below meth c Q D cT A nL ag pc ls st ws nc ns := by
  obtain ⟨hx, hb, hml, hown, hts, hK, hA, hin, hSt, hRf, hRl⟩ := hX
  intro ad H locs lsA hag hP hD hS hL

  have hok := Bool.and_eq_true_iff.mp hok
  have hd := of_decide_eq_true hok.1
  have h2 := of_decide_eq_true hok.2
  dsimp only [zz_i] at h
  split at h
  · next x r =>
    cases q with
    | eq => exact lv_if_eq hx hb hd h2 (fun q => hk _ _ _ _ _ _ (h.1 q) ad H locs lsA hag hP hD hS hL) (fun q => hk _ _ _ _ _ _ (h.2 q) ad H locs lsA hag hP hD hS hL)
    | ne => exact lv_if_ne hx hb hd h2 (fun q => hk _ _ _ _ _ _ (h.1 q) ad H locs lsA hag hP hD hS hL) (fun q => hk _ _ _ _ _ _ (h.2 q) ad H locs lsA hag hP hD hS hL)
    | lt => exact lv_if_lt hx hb hd h2 (fun q => hk _ _ _ _ _ _ (h.1 q) ad H locs lsA hag hP hD hS hL) (fun q => hk _ _ _ _ _ _ (h.2 q) ad H locs lsA hag hP hD hS hL)
    | ge => exact lv_if_ge hx hb hd h2 (fun q => hk _ _ _ _ _ _ (h.1 q) ad H locs lsA hag hP hD hS hL) (fun q => hk _ _ _ _ _ _ (h.2 q) ad H locs lsA hag hP hD hS hL)
    | gt => exact lv_if_gt hx hb hd h2 (fun q => hk _ _ _ _ _ _ (h.1 q) ad H locs lsA hag hP hD hS hL) (fun q => hk _ _ _ _ _ _ (h.2 q) ad H locs lsA hag hP hD hS hL)
    | le => exact lv_if_le hx hb hd h2 (fun q => hk _ _ _ _ _ _ (h.1 q) ad H locs lsA hag hP hD hS hL) (fun q => hk _ _ _ _ _ _ (h.2 q) ad H locs lsA hag hP hD hS hL)
  · exact h.elim

theorem zz_i_if_icmp (hX : zz_X CL p R s m args meth c D cT A nL BIG tF own cc ini) {q : ClassFile.Cond} {o : Int} (hok : zz_ok CL BIG HOST own cc nL ini sw pc (.if_icmp q o) v w a b = true)
    (hk : ∀ pc ls st ws nc ns, k pc ls st ws nc ns → zz_G CL p l e R s m args below meth c Q D cT A nL ag pc ls st ws nc ns)
    (h : zz_i tF R.cells R.slots gr rt cl sw k ret xx pc ls st ws nc ns (.if_icmp q o) v w a b) : zz_G CL p l e R s m args below meth c Q D cT A nL ag pc ls st ws nc ns := by
  obtain ⟨hx, hb, hml, hown, hts, hK, hA, hin, hSt, hRf, hRl⟩ := hX
  intro ad H locs lsA hag hP hD hS hL

  have hok := Bool.and_eq_true_iff.mp hok
  have hd := of_decide_eq_true hok.1
  have h2 := of_decide_eq_true hok.2
  dsimp only [zz_i] at h
  split at h
  · next y x r =>
    cases q with
    | eq => exact lv_icmp_eq hx hb hd h2 (fun q => hk _ _ _ _ _ _ (h.1 q) ad H locs lsA hag hP hD hS hL) (fun q => hk _ _ _ _ _ _ (h.2 q) ad H locs lsA hag hP hD hS hL)
    | ne => exact lv_icmp_ne hx hb hd h2 (fun q => hk _ _ _ _ _ _ (h.1 q) ad H locs lsA hag hP hD hS hL) (fun q => hk _ _ _ _ _ _ (h.2 q) ad H locs lsA hag hP hD hS hL)
    | lt => exact lv_icmp_lt hx hb hd h2 (fun q => hk _ _ _ _ _ _ (h.1 q) ad H locs lsA hag hP hD hS hL) (fun q => hk _ _ _ _ _ _ (h.2 q) ad H locs lsA hag hP hD hS hL)
    | ge => exact lv_icmp_ge hx hb hd h2 (fun q => hk _ _ _ _ _ _ (h.1 q) ad H locs lsA hag hP hD hS hL) (fun q => hk _ _ _ _ _ _ (h.2 q) ad H locs lsA hag hP hD hS hL)
    | gt => exact lv_icmp_gt hx hb hd h2 (fun q => hk _ _ _ _ _ _ (h.1 q) ad H locs lsA hag hP hD hS hL) (fun q => hk _ _ _ _ _ _ (h.2 q) ad H locs lsA hag hP hD hS hL)
    | le => exact lv_icmp_le hx hb hd h2 (fun q => hk _ _ _ _ _ _ (h.1 q) ad H locs lsA hag hP hD hS hL) (fun q => hk _ _ _ _ _ _ (h.2 q) ad H locs lsA hag hP hD hS hL)
  · exact h.elim

theorem zz_i_getfield (hX : zz_X CL p R s m args meth c D cT A nL BIG tF own cc ini) {n : Nat} (hok : zz_ok CL BIG HOST own cc nL ini sw pc (.getfield n) v w a b = true)
    (hk : ∀ pc ls st ws nc ns, k pc ls st ws nc ns → zz_G CL p l e R s m args below meth c Q D cT A nL ag pc ls st ws nc ns)
    (h : zz_i tF R.cells R.slots gr rt cl sw k ret xx pc ls st ws nc ns (.getfield n) v w a b) : zz_G CL p l e R s m args below meth c Q D cT A nL ag pc ls st ws nc ns := by
  obtain ⟨hx, hb, hml, hown, hts, hK, hA, hin, hSt, hRf, hRl⟩ := hX
  intro ad H locs lsA hag hP hD hS hL

  have hok := Bool.and_eq_true_iff.mp hok
  have hd := of_decide_eq_true hok.1
  have h2 := hok.2
  split at h2
  · next C T N hc =>
    obtain ⟨hbN, hlk⟩ := Bool.and_eq_true_iff.mp h2
    have hbN : b < N := Nat.blt_eq.mp hbN
    obtain ⟨hin2, hty, hnm⟩ := hSt a _ hc
    dsimp only [zz_i] at h
    split at h
    · next q r =>
      split at h
      · next ci fs hq =>
        replace h := zz_bif h
        obtain ⟨h1, h⟩ := h
        have h1 : ci = a := Nat.eq_of_beq_eq_true h1
        subst h1
        split at h
        · next x hf =>
          have hg := zz_C_get (cT := cT) (ad := ad) hq
          have hv : (fs.map (zz_V ad))[b]? = some (zz_V ad x) := by rw [List.getElem?_map, hf]; rfl
          rcases Bool.or_eq_true_iff.mp hlk with hlk | hlk
          · exact va_get hx hb hts hin2 hown hK hP q hg hc b hbN (hts _ (of_decide_eq_true hlk)) (fun _ h9 => h9) hv hd (hk _ _ _ _ _ _ h ad H locs lsA hag hP hD hS hL)
          · exact va_getN hx hb hts hin2 hown hK hP q hg hc b hbN (hts _ (of_decide_eq_true hlk)) (fun _ h9 => h9) hv hd (hk _ _ _ _ _ _ h ad H locs lsA hag hP hD hS hL)
        · exact h.elim
      · exact h.elim
    · exact h.elim
  · cases h2

theorem zz_i_putfield (hX : zz_X CL p R s m args meth c D cT A nL BIG tF own cc ini) {n : Nat} (hok : zz_ok CL BIG HOST own cc nL ini sw pc (.putfield n) v w a b = true)
    (hk : ∀ pc ls st ws nc ns, k pc ls st ws nc ns → zz_G CL p l e R s m args below meth c Q D cT A nL ag pc ls st ws nc ns)
    (h : zz_i tF R.cells R.slots gr rt cl sw k ret xx pc ls st ws nc ns (.putfield n) v w a b) : zz_G CL p l e R s m args below meth c Q D cT A nL ag pc ls st ws nc ns := by
  obtain ⟨hx, hb, hml, hown, hts, hK, hA, hin, hSt, hRf, hRl⟩ := hX
  intro ad H locs lsA hag hP hD hS hL

  have hok := Bool.and_eq_true_iff.mp hok
  have hd := of_decide_eq_true hok.1
  have h2 := hok.2
  split at h2
  · next C T N hc =>
    obtain ⟨hbN, hlk⟩ := Bool.and_eq_true_iff.mp h2
    have hbN : b < N := Nat.blt_eq.mp hbN
    obtain ⟨hin2, hty, hnm⟩ := hSt a _ hc
    dsimp only [zz_i] at h
    split at h
    · next x q r =>
      split at h
      · next ci fs hq =>
        replace h := zz_bif h
        obtain ⟨h1, h⟩ := h
        obtain ⟨h1, h3⟩ := Bool.and_eq_true_iff.mp h1
        obtain ⟨h3, h4⟩ := Bool.and_eq_true_iff.mp h3
        have h1 : ci = a := Nat.eq_of_beq_eq_true h1
        subst h1
        have hbl : b < (fs.map (zz_V ad)).length := by rw [List.length_map]; exact Nat.blt_eq.mp h4
        obtain ⟨hn1, hn2⟩ := zz_fit_ok h3 ad
        have hg := zz_C_get (cT := cT) (ad := ad) hq
        have hk1 : ∀ (H1 : Heap) (locs1 : List Loc), va_P D CL ((zz_C cT ad ws).set q (ad q, .inr (ci, (fs.map (zz_V ad)).set b (zz_V ad x)))) H1 → va_D A ((zz_C cT ad ws).set q (ad q, .inr (ci, (fs.map (zz_V ad)).set b (zz_V ad x)))) → va_S A s.heap H1 locs1 →
            W p l e R s m args below meth c H1 locs1 nc ns Q (F0 m (pc + 3) lsA (r.map (zz_V ad))) := fun H1 locs1 hP1 hD1 hS1 => by
          have e : zz_C cT ad (ws.set q (.inr (ci, fs.set b x))) = (zz_C cT ad ws).set q (ad q, .inr (ci, (fs.map (zz_V ad)).set b (zz_V ad x))) := by
            rw [zz_C_set]
            show _ = (zz_C cT ad ws).set q (ad q, .inr (ci, (fs.map (zz_V ad)).set b (zz_V ad x)))
            rw [← List.map_set]
            rfl
          exact hk _ _ _ _ _ _ h ad H1 locs1 lsA hag (by rw [e]; exact hP1) (by rw [e]; exact hD1) hS1 hL
        cases hf : (T b).2.2.2 with
        | true =>
          rw [hf] at hlk
          obtain ⟨g1, g2⟩ := Bool.and_eq_true_iff.mp hlk
          obtain ⟨g2, g3⟩ := Bool.and_eq_true_iff.mp g2
          exact va_putF hx hb hts hin2 (tF ci) hty hnm hown hK hP hD hS q hg hc b hbN (hts _ (of_decide_eq_true g3)) (fun _ h9 => h9) hf (hin g1) (of_decide_eq_true g2) (hty b hbN) hn1 hn2 hbl hd hk1
        | false =>
          rw [hf] at hlk
          rcases Bool.or_eq_true_iff.mp hlk with hlk | hlk
          · exact va_put hx hb hts hin2 (tF ci) hty hnm hown hK hP hD hS q hg hc b hbN (hts _ (of_decide_eq_true hlk)) (fun _ h9 => h9) hf (hty b hbN) hn1 hn2 hbl hd hk1
          · exact va_putN hx hb hts hin2 (tF ci) hty hnm hown hK hP hD hS q hg hc b hbN (hts _ (of_decide_eq_true hlk)) (fun _ h9 => h9) hf (hty b hbN) hn1 hn2 hbl hd hk1
      · exact h.elim
    · exact h.elim
  · cases h2

theorem zz_i_iaload (hX : zz_X CL p R s m args meth c D cT A nL BIG tF own cc ini)  (hok : zz_ok CL BIG HOST own cc nL ini sw pc (.iaload) v w a b = true)
    (hk : ∀ pc ls st ws nc ns, k pc ls st ws nc ns → zz_G CL p l e R s m args below meth c Q D cT A nL ag pc ls st ws nc ns)
    (h : zz_i tF R.cells R.slots gr rt cl sw k ret xx pc ls st ws nc ns (.iaload) v w a b) : zz_G CL p l e R s m args below meth c Q D cT A nL ag pc ls st ws nc ns := by
  obtain ⟨hx, hb, hml, hown, hts, hK, hA, hin, hSt, hRf, hRl⟩ := hX
  intro ad H locs lsA hag hP hD hS hL

  have hd := of_decide_eq_true hok
  dsimp only [zz_i] at h
  split at h
  · next j q r =>
    split at h
    · next n f hq =>
      exact va_iald hx hb hK hP q 0 (zz_C_get (cT := cT) (ad := ad) hq) rfl h.1 hd (hk _ _ _ _ _ _ h.2 ad H locs lsA hag hP hD hS hL)
    · exact h.elim
  · exact h.elim

theorem zz_i_baload (hX : zz_X CL p R s m args meth c D cT A nL BIG tF own cc ini)  (hok : zz_ok CL BIG HOST own cc nL ini sw pc (.baload) v w a b = true)
    (hk : ∀ pc ls st ws nc ns, k pc ls st ws nc ns → zz_G CL p l e R s m args below meth c Q D cT A nL ag pc ls st ws nc ns)
    (h : zz_i tF R.cells R.slots gr rt cl sw k ret xx pc ls st ws nc ns (.baload) v w a b) : zz_G CL p l e R s m args below meth c Q D cT A nL ag pc ls st ws nc ns := by
  obtain ⟨hx, hb, hml, hown, hts, hK, hA, hin, hSt, hRf, hRl⟩ := hX
  intro ad H locs lsA hag hP hD hS hL

  have hd := of_decide_eq_true hok
  dsimp only [zz_i] at h
  split at h
  · next j q r =>
    split at h
    · next n f hq =>
      exact va_zald hx hb hK hP q 1 (zz_C_get (cT := cT) (ad := ad) hq) rfl h.1 hd (hk _ _ _ _ _ _ h.2 ad H locs lsA hag hP hD hS hL)
    · exact h.elim
  · exact h.elim

theorem zz_i_laload (hX : zz_X CL p R s m args meth c D cT A nL BIG tF own cc ini)  (hok : zz_ok CL BIG HOST own cc nL ini sw pc (.laload) v w a b = true)
    (hk : ∀ pc ls st ws nc ns, k pc ls st ws nc ns → zz_G CL p l e R s m args below meth c Q D cT A nL ag pc ls st ws nc ns)
    (h : zz_i tF R.cells R.slots gr rt cl sw k ret xx pc ls st ws nc ns (.laload) v w a b) : zz_G CL p l e R s m args below meth c Q D cT A nL ag pc ls st ws nc ns := by
  obtain ⟨hx, hb, hml, hown, hts, hK, hA, hin, hSt, hRf, hRl⟩ := hX
  intro ad H locs lsA hag hP hD hS hL

  have hd := of_decide_eq_true hok
  dsimp only [zz_i] at h
  split at h
  · next j q r =>
    split at h
    · next n f hq =>
      exact va_lald hx hb hK hP q 2 (zz_C_get (cT := cT) (ad := ad) hq) rfl h.1 hd (hk _ _ _ _ _ _ h.2 ad H locs lsA hag hP hD hS hL)
    · exact h.elim
  · exact h.elim

theorem zz_i_iastore (hX : zz_X CL p R s m args meth c D cT A nL BIG tF own cc ini)  (hok : zz_ok CL BIG HOST own cc nL ini sw pc (.iastore) v w a b = true)
    (hk : ∀ pc ls st ws nc ns, k pc ls st ws nc ns → zz_G CL p l e R s m args below meth c Q D cT A nL ag pc ls st ws nc ns)
    (h : zz_i tF R.cells R.slots gr rt cl sw k ret xx pc ls st ws nc ns (.iastore) v w a b) : zz_G CL p l e R s m args below meth c Q D cT A nL ag pc ls st ws nc ns := by
  obtain ⟨hx, hb, hml, hown, hts, hK, hA, hin, hSt, hRf, hRl⟩ := hX
  intro ad H locs lsA hag hP hD hS hL

  have hd := of_decide_eq_true hok
  dsimp only [zz_i] at h
  split at h
  · next x j q r =>
    split at h
    · next n f hq =>
      exact va_iast hx hb hK hP hD hS q 0 (zz_C_get (cT := cT) (ad := ad) hq) rfl h.1 hd (fun H1 locs1 hP1 hD1 hS1 => hk _ _ _ _ _ _ h.2 ad H1 locs1 lsA hag (by rw [zz_C_set]; exact hP1) (by rw [zz_C_set]; exact hD1) hS1 hL)
    · exact h.elim
  · exact h.elim

theorem zz_i_bastore (hX : zz_X CL p R s m args meth c D cT A nL BIG tF own cc ini)  (hok : zz_ok CL BIG HOST own cc nL ini sw pc (.bastore) v w a b = true)
    (hk : ∀ pc ls st ws nc ns, k pc ls st ws nc ns → zz_G CL p l e R s m args below meth c Q D cT A nL ag pc ls st ws nc ns)
    (h : zz_i tF R.cells R.slots gr rt cl sw k ret xx pc ls st ws nc ns (.bastore) v w a b) : zz_G CL p l e R s m args below meth c Q D cT A nL ag pc ls st ws nc ns := by
  obtain ⟨hx, hb, hml, hown, hts, hK, hA, hin, hSt, hRf, hRl⟩ := hX
  intro ad H locs lsA hag hP hD hS hL

  have hd := of_decide_eq_true hok
  dsimp only [zz_i] at h
  split at h
  · next x j q r =>
    split at h
    · next n f hq =>
      exact va_zast hx hb hK hP hD hS q 1 (zz_C_get (cT := cT) (ad := ad) hq) rfl h.1 hd (fun H1 locs1 hP1 hD1 hS1 => hk _ _ _ _ _ _ h.2 ad H1 locs1 lsA hag (by rw [zz_C_set]; exact hP1) (by rw [zz_C_set]; exact hD1) hS1 hL)
    · exact h.elim
  · exact h.elim

theorem zz_i_lastore (hX : zz_X CL p R s m args meth c D cT A nL BIG tF own cc ini)  (hok : zz_ok CL BIG HOST own cc nL ini sw pc (.lastore) v w a b = true)
    (hk : ∀ pc ls st ws nc ns, k pc ls st ws nc ns → zz_G CL p l e R s m args below meth c Q D cT A nL ag pc ls st ws nc ns)
    (h : zz_i tF R.cells R.slots gr rt cl sw k ret xx pc ls st ws nc ns (.lastore) v w a b) : zz_G CL p l e R s m args below meth c Q D cT A nL ag pc ls st ws nc ns := by
  obtain ⟨hx, hb, hml, hown, hts, hK, hA, hin, hSt, hRf, hRl⟩ := hX
  intro ad H locs lsA hag hP hD hS hL

  have hd := of_decide_eq_true hok
  dsimp only [zz_i] at h
  split at h
  · next x j q r =>
    split at h
    · next n f hq =>
      exact va_last hx hb hK hP hD hS q 2 (zz_C_get (cT := cT) (ad := ad) hq) rfl h.1 hd (fun H1 locs1 hP1 hD1 hS1 => hk _ _ _ _ _ _ h.2 ad H1 locs1 lsA hag (by rw [zz_C_set]; exact hP1) (by rw [zz_C_set]; exact hD1) hS1 hL)
    · exact h.elim
  · exact h.elim

theorem zz_i_arraylength (hX : zz_X CL p R s m args meth c D cT A nL BIG tF own cc ini)  (hok : zz_ok CL BIG HOST own cc nL ini sw pc (.arraylength) v w a b = true)
    (hk : ∀ pc ls st ws nc ns, k pc ls st ws nc ns → zz_G CL p l e R s m args below meth c Q D cT A nL ag pc ls st ws nc ns)
    (h : zz_i tF R.cells R.slots gr rt cl sw k ret xx pc ls st ws nc ns (.arraylength) v w a b) : zz_G CL p l e R s m args below meth c Q D cT A nL ag pc ls st ws nc ns := by
  obtain ⟨hx, hb, hml, hown, hts, hK, hA, hin, hSt, hRf, hRl⟩ := hX
  intro ad H locs lsA hag hP hD hS hL

  have hd := of_decide_eq_true hok
  dsimp only [zz_i] at h
  split at h
  · next q r =>
    split at h
    · next n z hq => exact va_alen hx hb hK hP q 0 (zz_C_get (cT := cT) (ad := ad) hq) (ty := .int) rfl rfl hd (hk _ _ _ _ _ _ h ad H locs lsA hag hP hD hS hL)
    · next n z hq => exact va_alen hx hb hK hP q 1 (zz_C_get (cT := cT) (ad := ad) hq) (ty := .boolean) rfl rfl hd (hk _ _ _ _ _ _ h ad H locs lsA hag hP hD hS hL)
    · next n z hq => exact va_alen hx hb hK hP q 2 (zz_C_get (cT := cT) (ad := ad) hq) (ty := .long) rfl rfl hd (hk _ _ _ _ _ _ h ad H locs lsA hag hP hD hS hL)
    · exact h.elim
  · exact h.elim

theorem zz_i_table (hX : zz_X CL p R s m args meth c D cT A nL BIG tF own cc ini) {d lo hi : Int} {offs : Array Int} (hok : zz_ok CL BIG HOST own cc nL ini sw pc (.tableswitch d lo hi offs) v w a b = true)
    (hk : ∀ pc ls st ws nc ns, k pc ls st ws nc ns → zz_G CL p l e R s m args below meth c Q D cT A nL ag pc ls st ws nc ns)
    (h : zz_i tF R.cells R.slots gr rt cl sw k ret xx pc ls st ws nc ns (.tableswitch d lo hi offs) v w a b) : zz_G CL p l e R s m args below meth c Q D cT A nL ag pc ls st ws nc ns := by
  obtain ⟨hx, hb, hml, hown, hts, hK, hA, hin, hSt, hRf, hRl⟩ := hX
  intro ad H locs lsA hag hP hD hS hL
  obtain ⟨hd, h2⟩ := Bool.and_eq_true_iff.mp hok
  obtain ⟨h2, h3⟩ := Bool.and_eq_true_iff.mp h2
  obtain ⟨e1, e2⟩ := zz_tb_at h3
  have hda := of_decide_eq_true h2
  obtain ⟨len, hd⟩ : ∃ len, decode cc pc = .ok (.tableswitch d lo hi offs, len) := by
    split at hd
    · next j len hj =>
      have := of_decide_eq_true hd
      subst this
      exact ⟨len, hj⟩
    · cases hd
  dsimp only [zz_i] at h
  split at h
  · next x r =>
    by_cases hr : x.toInt < lo ∨ hi < x.toInt
    · rcases zz_sw_or h with ⟨j, q, h4, h5, h6⟩ | ⟨h4, h5⟩
      · exfalso
        obtain ⟨g1, -⟩ := e2 j q h4
        have hj := (List.getElem?_eq_some_iff.mp h4).1
        rw [← h5] at g1
        omega
      · exact lv_tableOut hx hb hd hr hda (hk _ _ _ _ _ _ h5 ad H locs lsA hag hP hD hS hL)
    · have r1 : ¬ x.toInt < lo := fun z => hr (Or.inl z)
      have r2 : ¬ hi < x.toInt := fun z => hr (Or.inr z)
      rcases zz_sw_or h with ⟨j, q, h4, h5, h6⟩ | ⟨h4, h5⟩
      · obtain ⟨g1, o, g2, g3⟩ := e2 j q h4
        rw [← h5] at g1
        have hj : (x.toInt - lo).toNat = j := by omega
        exact lv_tableIn hx hb hd r1 r2 (by rw [hj]; exact g2) g3 (hk _ _ _ _ _ _ h6 ad H locs lsA hag hP hD hS hL)
      · exfalso
        have hj : (x.toInt - lo).toNat < (sw pc).length := by omega
        obtain ⟨g1, -⟩ := e2 _ _ (List.getElem?_eq_getElem hj)
        refine h4 _ (List.getElem_mem hj) (Int32.toInt_inj.mp ?_)
        omega
  · exact h.elim
theorem zz_i_lookup (hX : zz_X CL p R s m args meth c D cT A nL BIG tF own cc ini) {d : Int} {ps : Array (Int × Int)} (hok : zz_ok CL BIG HOST own cc nL ini sw pc (.lookupswitch d ps) v w a b = true)
    (hk : ∀ pc ls st ws nc ns, k pc ls st ws nc ns → zz_G CL p l e R s m args below meth c Q D cT A nL ag pc ls st ws nc ns)
    (h : zz_i tF R.cells R.slots gr rt cl sw k ret xx pc ls st ws nc ns (.lookupswitch d ps) v w a b) : zz_G CL p l e R s m args below meth c Q D cT A nL ag pc ls st ws nc ns := by
  obtain ⟨hx, hb, hml, hown, hts, hK, hA, hin, hSt, hRf, hRl⟩ := hX
  intro ad H locs lsA hag hP hD hS hL
  obtain ⟨hd, h2⟩ := Bool.and_eq_true_iff.mp hok
  obtain ⟨h2, h3⟩ := Bool.and_eq_true_iff.mp h2
  obtain ⟨h3, h4⟩ := Bool.and_eq_true_iff.mp h3
  have hda := of_decide_eq_true h2
  have hps := of_decide_eq_true h4
  obtain ⟨len, hd⟩ : ∃ len, decode cc pc = .ok (.lookupswitch d ps, len) := by
    split at hd
    · next j len hj =>
      have := of_decide_eq_true hd
      subst this
      exact ⟨len, hj⟩
    · cases hd
  dsimp only [zz_i] at h
  split at h
  · next x r =>
    obtain ⟨t, h5, h6⟩ := zz_sw_fn h hda
    rw [← hps] at h5
    exact lv_lookup hx hb hd h3 rfl h5 (hk _ _ _ _ _ _ h6 ad H locs lsA hag hP hD hS hL)
  · exact h.elim

end ZS
