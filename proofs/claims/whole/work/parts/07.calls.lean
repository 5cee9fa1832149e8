/-! ===== contracts in places ===== -/
/-- the words that a callee may be given as they stand -/
def zz_big : List Cond := lw_tbl.filter goodWord
theorem zz_big_good : GoodIn zz_big zz_big := fun w hw => ⟨hw, good_of_word (List.mem_filter.mp hw).2⟩
/-- the words that stay though they aren't among those -/
def zz_nwk : Cond → Bool
  | .fieldLinkNest _ _ _ _ _ _ => true
  | .methodLinkNest _ _ _ _ => true
  | .declares _ => true
  | .castable _ _ => true
  | _ => false
def zz_nw : List Cond := lw_tbl.filter zz_nwk
def zz_al : List Cond := zz_big ++ zz_nw
theorem zz_nw_warm {w : Cond} {s U : State} (hk : zz_nwk w = true) (hW : s.WarmedH U.vm) (h : va_Nw w s) : va_Nw w U := by
  cases w <;> first
    | exact va_Nw.warmF hW h
    | exact va_Nw.warmM hW h
    | exact va_Nw.warmD hW h
    | exact va_Nw.warmC hW h
    | (cases hk; done)
theorem zz_nw_on {w : Cond} (hk : zz_nwk w = true) : w.onTables = true := by
  cases w <;> first
    | rfl
    | (cases hk; done)
/-- the texts of the throws -/
def zz_ss : List (String × Nat × String) := [("CrewRules", 64, "not 1 to 8 bytes"), ("CrewRules", 74, "the tape has room for 300 bytes"), ("CrewRules", 90, "the text is wrong"), ("CrewRules", 221, "persons are 0 to 49"), ("CrewRules", 227, "ranks are 0 to 9"), ("CrewRules", 102, "marks are 0 to 3"), ("CrewRules", 225, "skills are 0 to 9"), ("CrewRules", 230, "hours are 0 to 99999"), ("CrewRules", 120, "the duty before ended after this one began"), ("CrewRules", 223, "crews are 0 to 19"), ("CrewRules", 131, "kinds are 1 to 9"), ("CrewRules", 140, "the person is in the crew"), ("CrewRules", 145, "the crew has room for 12"), ("CrewRules", 151, "the person is not in the crew"), ("CrewRules", 203, "places begin with 0"), ("CrewRules", 213, "there is no rule for this kind"), ("CrewRules", 219, "a rule tells 0 to 4")]
/-- what a throw and a nest mate's field rest on: two statics that aren't among A, words, texts -/
def zz_sx (A : Nat → Prop) (U : State) : Prop := (vx_Zq Bundle.tN "UNASSIGNED_STACK" Bundle.steD A U U.heap ∧ vx_Zq Bundle.tN "SUPPRESSED_SENTINEL" Bundle.listD A U U.heap) ∧ (∀ w ∈ zz_nw, va_Nw w U) ∧ ∀ q ∈ zz_ss, ∃ a, vk_R q.1 q.2.1 q.2.2 a U
def zz_B (CL : List vw_C) (D : va_G) (cT : Nat → ClassId) (ad : Nat → Nat) (ws : List va_E) (sz : Nat) : State → Prop := fun U =>
  U.heap.size = sz ∧ va_P D CL (zz_C cT ad ws) U.heap ∧ va_K D CL (zz_ty cT) U ∧ va_D (fun _ => True) (zz_C cT ad ws) ∧ zz_sx (va_A (zz_C cT ad ws) sz) U
def zz_Qc (CL : List vw_C) (D : va_G) (cT : Nat → ClassId) (ad : Nat → Nat) (ws : List va_E) (sz : Nat) (g : Bool) (k : Option Value → List va_E → Prop) : Array Value → State → Outcome → State → Prop := fun _ st oc t =>
  (∃ (r : Option Value) (ws' : List va_E) (ad' : Nat → Nat), oc = .returned (r.map (zz_V ad')) ∧ (g = false → ad' = ad) ∧ (∀ j, j < ws.length → ad' j = ad j) ∧ k r ws' ∧ va_P D CL (zz_C cT ad' ws') t.heap ∧ va_D (va_A (zz_C cT ad ws) sz) (zz_C cT ad' ws')) ∧ va_F (va_A (zz_C cT ad ws) sz) st t
def zz_XC (CL : List vw_C) (D : va_G) (cT : Nat → ClassId) (ad : Nat → Nat) (ws : List va_E) (sz : Nat) (x : String → List va_E → Prop) : String → State → State → Prop := fun E st t =>
  (∃ ws' : List va_E, x E ws' ∧ va_P D CL (zz_C cT ad ws') t.heap ∧ va_D (va_A (zz_C cT ad ws) sz) (zz_C cT ad ws')) ∧ va_F (va_A (zz_C cT ad ws) sz) st t
/-- a method's contract: what it does is yy's last part -/
def zz_M (CL : List vw_C) (l : Launch) (y : MethodName) (W0 : List Cond) (rm : Room) (yy : zz_Y) : Prop :=
  ∀ (D : va_G) (cT : Nat → ClassId) (As : List Value) (ws : List va_E) (ad : Nat → Nat) (sz : Nat) (k : Option Value → List va_E → Prop) (x : String → List va_E → Prop), yy.2.2.2.2 As ws k x →
    vx_Met l y W0 rm (va_Pc (As.map (zz_V ad)) (zz_B CL D cT ad ws sz)) (zz_Qc CL D cT ad ws sz yy.2.1 k) (zz_XC CL D cT ad ws sz x) yy.2.2.1 yy.2.2.2.1 (va_A (zz_C cT ad ws) sz)
theorem zz_sx.moved {A : Nat → Prop} {u U : State} (hvm : U.vm = u.vm) (hh : U.heap = u.heap) (h : zz_sx A u) : zz_sx A U :=
  ⟨⟨by rw [hh]; exact vx_Zq.moved (by rw [hvm]; exact Vm.Alike.refl _) h.1.1, by rw [hh]; exact vx_Zq.moved (by rw [hvm]; exact Vm.Alike.refl _) h.1.2⟩,
    fun w hw => va_Nw.same (zz_nw_on (List.mem_filter.mp hw).2) hvm.symm (h.2.1 w hw), fun q hq => by
      obtain ⟨a, ha⟩ := h.2.2 q hq
      exact ⟨a, vk_R.same hvm ha⟩⟩
theorem zz_sx.at {A B : Nat → Prop} {s U : State} {H : Heap} {locs : List Loc} (h : zz_sx A s) (hS : va_S A s.heap H locs) (hW : s.WarmedH U.vm) (hU : U.heap = H) (hAB : ∀ q, B q → A q) : zz_sx B U :=
  ⟨⟨by rw [hU]; exact ((vx_Zq.moved hW.alike h.1.1).kept hS.2.1).narrow hAB, by rw [hU]; exact ((vx_Zq.moved hW.alike h.1.2).kept hS.2.1).narrow hAB⟩,
    fun w hw => zz_nw_warm (List.mem_filter.mp hw).2 hW (h.2.1 w hw), fun q hq => by
      obtain ⟨a, ha⟩ := h.2.2 q hq
      exact ⟨a, vk_R.warm hW ha⟩⟩
/-- all words, at the method's own start -/
theorem zz_sx.all {A : Nat → Prop} {args : Array Value} {s : State} (h : zz_sx A s) (hts : ∀ w ∈ zz_big, w.before args s = true) : ∀ w ∈ zz_al, w.before args s = true := fun w hw =>
  (List.mem_append.mp hw).elim (hts w) (fun hw => va_Nw.use (zz_nw_on (List.mem_filter.mp hw).2) (h.2.1 w hw))
section ZA
variable {CL : List vw_C} {p : Program} {l : Launch} {e : Env} {R : Room} {s : State} {m : MethodId} {args : Array Value} {below : List Frame} {meth : Method} {c : Code} {Q : State → Prop} {D : va_G} {cT : Nat → ClassId} {A : Nat → Prop} {nL : Nat}
variable {H : Heap} {locs : List Loc} {nc ns mc ms pc : Nat} {lsA : Array Slot} {st0 rest : List Value} {ad : Nat → Nat} {ws : List va_E} {g : Bool} {k : Option Value → List va_E → Prop} {x : String → List va_E → Prop} {a : Array Value}
theorem zz_after (hr : vx_Run p l e R s m args below meth c H locs nc ns mc ms (F0 m pc lsA st0) rest (zz_Qc CL D cT ad ws H.size g k a) (zz_XC CL D cT ad ws H.size x) (va_A (zz_C cT ad ws) H.size)) (hS : va_S A s.heap H locs) (hF : ∀ q, va_A (zz_C cT ad ws) H.size q → A q)
    (kk : ∀ (r : Option Value) (ws' : List va_E) (ad' : Nat → Nat) (H' : Heap) (locs' : List Loc), k r ws' → (g = false → ad' = ad) → (∀ j, j < ws.length → ad' j = ad j) → va_P D CL (zz_C cT ad' ws') H' → va_D A (zz_C cT ad' ws') → va_S A s.heap H' locs' →
      W p l e R s m args below meth c H' locs' (nc + mc) (ns + ms) Q (F0 m (pc + 3) lsA ((r.map (zz_V ad')).toList ++ rest)))
    (kx : ∀ (E : String) (ws' : List va_E) (H' : Heap) (locs' : List Loc) (q : Addr) (ce : Cell), x E ws' → va_P D CL (zz_C cT ad ws') H' → va_D A (zz_C cT ad ws') → va_S A s.heap H' locs' → H'[q]? = some ce → ce.vm = .none → s.vm.findClass E = some ce.cls →
      vx_W p l e R s m args below meth c H' locs' (nc + (mc + 1)) (ns + (ms + 6)) Q (F0 m pc lsA rest) q) :
    W p l e R s m args below meth c H locs nc ns Q (F0 m pc lsA st0) := by
  intro T hT X
  rcases hr T hT X with ⟨v, st₀, t, T', L, h0, X', hL, e1, e2, ⟨⟨r, ws', ad', hv, hg1, hg2, hk, hP1, hD1⟩, hF1⟩, st⟩ | ⟨q, st₀, t, T', L, E, ce, h0, X', hL, e1, e2, ⟨⟨ws', hx, hP1, hD1⟩, hF1⟩, hce, hcv, hcl, st⟩
  · cases hv
    obtain ⟨k1, k2, k3⟩ := vx_keep h0 e1 hS (fun q _ h => hF q h) hF hL hF1
    obtain ⟨t2, a1, b1⟩ := kk r ws' ad' T'.heap (locs ++ L) hk hg1 hg2 (by rw [e1]; exact hP1) (hD1.weaken (fun _ q _ h => hF q.1 h)) k3 T' rfl X'
    exact ⟨t2, st t2 a1, b1⟩
  · obtain ⟨k1, k2, k3⟩ := vx_keep h0 e1 hS (fun q _ h => hF q h) hF hL hF1
    obtain ⟨t2, a1, b1⟩ := kx E ws' T'.heap (locs ++ L) q ce hx (by rw [e1]; exact hP1) (hD1.weaken (fun _ q _ h => hF q.1 h)) k3 (by rw [e1]; exact hce) hcv hcl T' rfl X'
    exact ⟨t2, st.trans a1, b1⟩
end ZA
theorem zz_blind {CL : List vw_C} {D : va_G} {cT : Nat → ClassId} {ad : Nat → Nat} {ws : List va_E} {sz : Nat} {As : List Value} : FrameBlind (va_Pc As (zz_B CL D cT ad ws sz)) := fun a U g mk h =>
  ⟨h.1, h.2.1, h.2.2.1, va_K.moved (u := U) (U := U.calling g mk a) (Vm.Alike.refl U.vm) h.2.2.2.1, h.2.2.2.2.1, zz_sx.moved (u := U) (U := U.calling g mk a) rfl rfl h.2.2.2.2.2⟩
