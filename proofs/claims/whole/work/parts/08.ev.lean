/-! ===== a call by its contract ===== -/
section ZE
variable {CL : List vw_C} {p : Program} {l : Launch} {e : Env} {R : Room} {s : State} {m : MethodId} {args : Array Value} {below : List Frame} {meth : Method} {c : Code} {Q : State → Prop} {D : va_G} {cT : Nat → ClassId} {A : Nat → Prop} {nL : Nat}
variable {tF : Nat → Nat → FieldType} {HOST own : String} {cc : ByteArray} {ini : Bool}
theorem zz_in {H : Heap} {locs : List Loc} {ws : va_W} (hD : va_D A ws) (hS : va_S A s.heap H locs) (hA : ∀ q, s.heap.size ≤ q → A q) : ∀ q, va_A ws H.size q → A q := by
  intro q h
  rcases h with ⟨k, e1, h⟩ | h
  · exact hD.2 k (q, e1) h
  · exact hA q (Nat.le_trans hS.1 h)
theorem zz_good {w0 : Cond} (h : w0 ∈ zz_big) : GoodIn zz_big (w0 :: zz_big) := fun w hw => (List.mem_cons.mp hw).elim (fun e1 => by rw [e1]; exact zz_big_good _ h) (zz_big_good w)
theorem zz_cats {ad : Nat → Nat} {rest : List Value} (h : (rest.map (fun v => v.category)).sum ≤ 8) : ((rest.map (zz_V ad)).map (fun v => v.category)).sum ≤ 8 := by
  rw [List.map_map]
  have e9 : ((fun v : Value => v.category) ∘ zz_V ad) = (fun v : Value => v.category) := funext fun v => zz_V_cat ad v
  rw [e9]
  exact h
/-- what the call needs of the tables: y's code, its name, its room -/
def zz_yk (R : Room) (y : MethodName) (bytes : ByteArray) (maxL : Nat) (ret : Option FieldType) (rm : Room) (n mc ms : Nat) : Prop :=
  Cond.code y bytes maxL ret ∈ zz_big ∧ Cond.initialized y.cls ∈ zz_big ∧ (y.cls ≠ "java/lang/invoke/MethodHandle" ∧ y.cls ≠ "java/lang/invoke/VarHandle" ∧ (parseMethodDescriptor y.desc).map (fun d => d.parameters.length) = some n) ∧ rm.cells = mc + 1 ∧ rm.slots = ms + 6 ∧ rm.frames + 1 ≤ R.frames ∧ 8 + (maxL + 11) + rm.locals ≤ R.locals
theorem zz_Cl_V (hX : zz_X CL p R s m args meth c D cT A nL zz_al tF own cc ini) (hsx : zz_sx A s) {y : MethodName} {bytes : ByteArray} {maxL : Nat} {ret : Option FieldType} {rm : Room} {idx n ci N : Nat} {g : Bool} {mc ms : Nat} {pt : zz_PT} {T : u_T}
    (hM : zz_M CL l y (Cond.code y bytes maxL ret :: zz_big) rm (n + 1, g, mc, ms, pt)) (hy : zz_yk R y bytes maxL ret rm n mc ms) (hlink : Cond.methodLink own idx y ∈ zz_big) (hinst : Cond.instanceMethod y ∈ zz_big) (hsel : Cond.selects y.cls y y ∈ zz_big)
    (hci : CL[ci]? = some (y.cls, T, N)) (hrecv : ∀ As ws k x, pt As ws k x → ∃ q As' fs, As = .ref q :: As' ∧ ws[q]? = some (.inr (ci, fs))) :
    zz_Cl CL p l e R s m args below meth c Q D cT A nL cc (.invokevirtual idx) (n + 1, g, mc, ms, pt) := by
  obtain ⟨hx, hb, hml, hown, hta, hK, hA, -⟩ := hX
  have hts : ∀ w ∈ zz_big, w.before args s = true := fun w hw => hta w (List.mem_append_left _ hw)
  obtain ⟨h1, h2, h3, h4, h5, h6, h7⟩ := hy
  intro pc ls As rest ws nc ns ad H locs lsA k x hd0 hlen hst hc hs hP hD hS hsz hpt kk kx
  obtain ⟨q, As', fs, rfl, hq⟩ := hrecv _ _ _ _ hpt
  have hF := zz_in (s := s) hD hS hA
  have hlen' : (As'.map (zz_V ad)).length = n := by
    rw [List.length_map]
    exact Nat.succ.inj hlen
  have hr := vx_runV (e := e) (below := below) (meth := meth) (locs := locs) (cells := nc) (slots := ns) (H := H) (g := F0 m pc lsA (((Value.ref q :: As').reverse ++ rest).map (zz_V ad))) (As := As'.map (zz_V ad)) (rest := rest.map (zz_V ad)) (b := ad q) (C := y.cls) (nL := nL) ⟨hx, hb, hml, hown, hts⟩ (hM D cT (.ref q :: As') ws ad H.size k x hpt)
    ⟨callB_of n hts (zz_good h1) rfl h4 h5 (hts _ h2) (hts _ hlink) h3 ⟨h6, h7⟩, hts _ hinst, hts _ hsel⟩
    ⟨zz_blind, va_recv hK hP hci (zz_C_get (cT := cT) (ad := ad) hq), fun U hU hW => ⟨rfl, by rw [hU], by rw [hU]; exact hP, va_K.moved hW.alike hK, hD.weaken (fun _ _ _ _ => trivial), hsx.at hS hW hU hF⟩⟩
    rfl hlen' hsz (by simp [zz_V]) (lv_room (zz_cats hst)) hd0 ⟨hc, hs⟩
  exact zz_after hr hS hF kk kx
theorem zz_Cl_S (hX : zz_X CL p R s m args meth c D cT A nL zz_al tF own cc ini) (hsx : zz_sx A s) {y : MethodName} {bytes : ByteArray} {maxL : Nat} {ret : Option FieldType} {rm : Room} {idx n : Nat} {g : Bool} {mc ms : Nat} {pt : zz_PT}
    (hM : zz_M CL l y (Cond.code y bytes maxL ret :: zz_big) rm (n, g, mc, ms, pt)) (hy : zz_yk R y bytes maxL ret rm n mc ms) (hlink : Cond.methodLink own idx y ∈ zz_big) (hstat : Cond.static y ∈ zz_big) :
    zz_Cl CL p l e R s m args below meth c Q D cT A nL cc (.invokestatic idx) (n, g, mc, ms, pt) := by
  obtain ⟨hx, hb, hml, hown, hta, hK, hA, -⟩ := hX
  have hts : ∀ w ∈ zz_big, w.before args s = true := fun w hw => hta w (List.mem_append_left _ hw)
  obtain ⟨h1, h2, h3, h4, h5, h6, h7⟩ := hy
  intro pc ls As rest ws nc ns ad H locs lsA k x hd0 hlen hst hc hs hP hD hS hsz hpt kk kx
  have hF := zz_in (s := s) hD hS hA
  have hlen' : (As.map (zz_V ad)).length = n := by
    rw [List.length_map]
    exact hlen
  have hr := vx_runS (e := e) (below := below) (meth := meth) (locs := locs) (cells := nc) (slots := ns) (H := H) (g := F0 m pc lsA ((As.reverse ++ rest).map (zz_V ad))) (As := As.map (zz_V ad)) (rest := rest.map (zz_V ad)) (nL := nL) ⟨hx, hb, hml, hown, hts⟩ (hM D cT As ws ad H.size k x hpt)
    ⟨callB_of n hts (zz_good h1) rfl h4 h5 (hts _ h2) (hts _ hlink) h3 ⟨h6, h7⟩, hts _ hstat⟩
    ⟨zz_blind, fun U hU hW => ⟨rfl, by rw [hU], by rw [hU]; exact hP, va_K.moved hW.alike hK, hD.weaken (fun _ _ _ _ => trivial), hsx.at hS hW hU hF⟩⟩
    rfl hlen' hsz (by simp) (lv_room (zz_cats hst)) hd0 ⟨hc, hs⟩
  exact zz_after hr hS hF kk kx
/-- a contract that never throws -/
theorem zz_toMet {l : Launch} {y : MethodName} {W0 : List Cond} {rm : Room} {Pc : Array Value → State → Prop} {Qc : Array Value → State → Outcome → State → Prop} {XC : String → State → State → Prop} {mc ms : Nat} {free : Addr → Prop} (h : vx_Met l y W0 rm Pc Qc XC mc ms free) (hn : ∀ E st t, ¬ XC E st t) : Met l y W0 rm Pc Qc (mc + 1) (ms + 6) free := by
  intro p e h1 h2 h3 s m args below h4 h5 h6 h7
  obtain ⟨n, o, q1, q2, q3, q4⟩ := h p e h1 h2 h3 s m args below h4 h5 h6 h7
  refine ⟨n, o, q1, q2, q3, ?_⟩
  rcases q4 with ⟨q4, L, ⟨z1, z2, z3⟩, q6⟩ | ⟨q, -, E, ce, L, hx, -⟩
  · exact ⟨q4, L, ⟨z1, z2, z3.mono (Nat.le_succ mc) (Nat.le_add_right ms 6)⟩, q6⟩
  · exact absurd hx (hn _ _ _)
theorem zz_Cl_I (hX : zz_X CL p R s m args meth c D cT A nL zz_al tF own cc ini) (hsx : zz_sx A s) {y : MethodName} {bytes : ByteArray} {maxL : Nat} {rm : Room} {idx n : Nat} {g : Bool} {mc ms : Nat} {pt : zz_PT}
    (hM : zz_M CL l y (Cond.code y bytes maxL none :: zz_big) rm (n + 1, g, mc, ms, pt)) (hy : zz_yk R y bytes maxL none rm n mc ms) (hlink : Cond.methodLink own idx y ∈ zz_big) (hinst : Cond.instanceMethod y ∈ zz_big) (hyn : y.name = "<init>")
    (hrecv : ∀ As ws k x, pt As ws k x → (∃ q As', As = .ref q :: As') ∧ pt As ws k (fun _ _ => False)) :
    zz_Cl CL p l e R s m args below meth c Q D cT A nL cc (.invokespecial idx) (n + 1, g, mc + 1, ms + 6, pt) := by
  obtain ⟨hx, hb, hml, hown, hta, hK, hA, -⟩ := hX
  have hts : ∀ w ∈ zz_big, w.before args s = true := fun w hw => hta w (List.mem_append_left _ hw)
  obtain ⟨h1, h2, h3, h4, h5, h6, h7⟩ := hy
  intro pc ls As rest ws nc ns ad H locs lsA k x hd0 hlen hst hc hs hP hD hS hsz hpt kk kx
  obtain ⟨⟨q, As', rfl⟩, hpt⟩ := hrecv _ _ _ _ hpt
  have hF := zz_in (s := s) hD hS hA
  have hlen' : (As'.map (zz_V ad)).length = n := by
    rw [List.length_map]
    exact Nat.succ.inj hlen
  have hM1 : Met l y (Cond.code y bytes maxL none :: zz_big) rm (va_Pc ((Value.ref q :: As').map (zz_V ad)) (zz_B CL D cT ad ws H.size)) (zz_Qc CL D cT ad ws H.size g k) (mc + 1) (ms + 6) (va_A (zz_C cT ad ws) H.size) :=
    zz_toMet (hM D cT (.ref q :: As') ws ad H.size k _ hpt) (fun E st t z => by obtain ⟨⟨ws', z1, -⟩, -⟩ := z; exact z1)
  have hr := va_runI (e := e) (below := below) (meth := meth) (locs := locs) (cells := nc) (slots := ns) (H := H) (g := F0 m pc lsA (((Value.ref q :: As').reverse ++ rest).map (zz_V ad))) (As := As'.map (zz_V ad)) (rest := rest.map (zz_V ad)) (b := ad q) (nL := nL) ⟨hx, hb, hml, hown, hts⟩ hM1
    ⟨callB_of n hts (zz_good h1) rfl h4 h5 (hts _ h2) (hts _ hlink) h3 ⟨h6, h7⟩, hyn, hts _ hinst⟩
    ⟨zz_blind, fun U hU hW => ⟨rfl, by rw [hU], by rw [hU]; exact hP, va_K.moved hW.alike hK, hD.weaken (fun _ _ _ _ => trivial), hsx.at hS hW hU hF⟩⟩
    rfl hlen' hsz (by simp [zz_V]) (lv_room (zz_cats hst)) hd0 ⟨Nat.le_trans (Nat.add_le_add_left (Nat.le_succ _) nc) hc, Nat.le_trans (Nat.add_le_add_left (Nat.le_add_right _ 6) ns) hs⟩
  exact zz_after (x := x) (fun T hT X => Or.inl (hr T hT X)) hS hF kk kx
theorem zz_Cl_IN (hX : zz_X CL p R s m args meth c D cT A nL zz_al tF own cc ini) (hsx : zz_sx A s) {y : MethodName} {bytes : ByteArray} {maxL : Nat} {rm : Room} {idx n : Nat} {g : Bool} {mc ms : Nat} {pt : zz_PT}
    (hM : zz_M CL l y (Cond.code y bytes maxL none :: zz_big) rm (n + 1, g, mc, ms, pt)) (hy : zz_yk R y bytes maxL none rm n mc ms) (hlink : Cond.methodLinkNest own idx y HOST ∈ zz_al) (hinst : Cond.instanceMethod y ∈ zz_big) (hyn : y.name = "<init>")
    (hrecv : ∀ As ws k x, pt As ws k x → (∃ q As', As = .ref q :: As') ∧ pt As ws k (fun _ _ => False)) :
    zz_Cl CL p l e R s m args below meth c Q D cT A nL cc (.invokespecial idx) (n + 1, g, mc + 1, ms + 6, pt) := by
  obtain ⟨hx, hb, hml, hown, hta, hK, hA, -⟩ := hX
  have hts : ∀ w ∈ zz_big, w.before args s = true := fun w hw => hta w (List.mem_append_left _ hw)
  obtain ⟨h1, h2, h3, h4, h5, h6, h7⟩ := hy
  intro pc ls As rest ws nc ns ad H locs lsA k x hd0 hlen hst hc hs hP hD hS hsz hpt kk kx
  obtain ⟨⟨q, As', rfl⟩, hpt⟩ := hrecv _ _ _ _ hpt
  have hF := zz_in (s := s) hD hS hA
  have hlen' : (As'.map (zz_V ad)).length = n := by
    rw [List.length_map]
    exact Nat.succ.inj hlen
  have hM1 : Met l y (Cond.code y bytes maxL none :: zz_big) rm (va_Pc ((Value.ref q :: As').map (zz_V ad)) (zz_B CL D cT ad ws H.size)) (zz_Qc CL D cT ad ws H.size g k) (mc + 1) (ms + 6) (va_A (zz_C cT ad ws) H.size) :=
    zz_toMet (hM D cT (.ref q :: As') ws ad H.size k _ hpt) (fun E st t z => by obtain ⟨⟨ws', z1, -⟩, -⟩ := z; exact z1)
  have hr := va_runIN (e := e) (below := below) (meth := meth) (locs := locs) (cells := nc) (slots := ns) (H := H) (g := F0 m pc lsA (((Value.ref q :: As').reverse ++ rest).map (zz_V ad))) (As := As'.map (zz_V ad)) (rest := rest.map (zz_V ad)) (b := ad q) (nL := nL) ⟨hx, hb, hml, hown, hts⟩ hM1
    ⟨va_cnB n hts (zz_good h1) rfl h4 h5 (va_Nw.of rfl (hta _ hlink)) (hts _ h2) h3 ⟨h6, h7⟩, hyn, hts _ hinst⟩
    ⟨zz_blind, fun U hU hW => ⟨rfl, by rw [hU], by rw [hU]; exact hP, va_K.moved hW.alike hK, hD.weaken (fun _ _ _ _ => trivial), hsx.at hS hW hU hF⟩⟩
    rfl hlen' hsz (by simp [zz_V]) (lv_room (zz_cats hst)) hd0 ⟨Nat.le_trans (Nat.add_le_add_left (Nat.le_succ _) nc) hc, Nat.le_trans (Nat.add_le_add_left (Nat.le_add_right _ 6) ns) hs⟩
  exact zz_after (x := x) (fun T hT X => Or.inl (hr T hT X)) hS hF kk kx
end ZE
