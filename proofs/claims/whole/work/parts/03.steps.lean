/-! ===== what an instruction asks, as a statement on places ===== -/
abbrev zz_PT : Type := List Value → List va_E → (Option Value → List va_E → Prop) → (String → List va_E → Prop) → Prop
/-- an instruction with what its numbers mean: an int, a long, two numbers (a slot, a jump's end, a kind of object and a field) -/
abbrev zz_I : Type := Instr × Int32 × Int64 × Nat × Nat
abbrev zz_K : Type := Nat → List (Option Value) → List Value → List va_E → Nat → Nat → Prop
/-- a call: how many values it takes, does it make places, cells and slots, what it does -/
abbrev zz_Y : Type := Nat × Bool × Nat × Nat × zz_PT
def zz_len : Instr → Nat
  | .iconst _ => 1
  | .bipush _ => 2
  | .sipush _ => 3
  | .ldc _ => 2
  | .ldc_w _ => 3
  | .ldc2_w _ => 3
  | .iload _ => 2
  | .lload _ => 2
  | .aload _ => 2
  | .istore _ => 2
  | .lstore _ => 2
  | .astore _ => 2
  | .iinc _ _ => 3
  | .goto _ => 3
  | .ifCond _ _ => 3
  | .if_icmp _ _ => 3
  | .ifnull _ => 3
  | .ifnonnull _ => 3
  | .getfield _ => 3
  | .putfield _ => 3
  | .new _ => 3
  | .newarray _ => 2
  | .invokevirtual _ => 3
  | .invokestatic _ => 3
  | .invokespecial _ => 3
  | _ => 1
def zz_fit : FieldType → Value → Bool
  | .int, .int _ => true
  | .boolean, .int v => v == 0 || v == 1
  | .long, .long _ => true
  | .object _, .ref _ => true
  | .array _, .ref _ => true
  | _, _ => false
theorem zz_fit_ok {ty : FieldType} {v : Value} (h : zz_fit ty v = true) (ad : Nat → Nat) : narrow ty (zz_V ad v) = zz_V ad v ∧ fits ty (zz_V ad v) = true := by
  cases ty <;> cases v <;> first
    | exact ⟨rfl, rfl⟩
    | (cases h; done)
    | (rename_i z
       have h1 : z = 0 ∨ z = 1 := by simpa [zz_fit] using h
       rcases h1 with h1 | h1 <;> subst h1 <;> exact ⟨rfl, rfl⟩)
def zz_df (tF : Nat → Nat → FieldType) (ci N : Nat) : List Value := (List.range N).map (fun k => defaultValue (tF ci k))
def zz_c0 : ClassFile.Cond → Int32 → Prop
  | .eq, x => x = 0
  | .ne, x => ¬ x = 0
  | .lt, x => x < 0
  | .ge, x => 0 ≤ x
  | .gt, x => 0 < x
  | .le, x => x ≤ 0
def zz_c2 : ClassFile.Cond → Int32 → Int32 → Prop
  | .eq, x, y => x = y
  | .ne, x, y => ¬ x = y
  | .lt, x, y => x < y
  | .ge, x, y => y ≤ x
  | .gt, x, y => y < x
  | .le, x, y => x ≤ y
def zz_n0 : ClassFile.Cond → Int32 → Prop
  | .eq, x => ¬ x = 0
  | .ne, x => x = 0
  | .lt, x => ¬ x < 0
  | .ge, x => ¬ 0 ≤ x
  | .gt, x => ¬ 0 < x
  | .le, x => ¬ x ≤ 0
def zz_n2 : ClassFile.Cond → Int32 → Int32 → Prop
  | .eq, x, y => ¬ x = y
  | .ne, x, y => x = y
  | .lt, x, y => ¬ x < y
  | .ge, x, y => ¬ y ≤ x
  | .gt, x, y => ¬ y < x
  | .le, x, y => ¬ x ≤ y
def zz_rt : Option FieldType → Int32 → Prop
  | some .int, _ => True
  | some .boolean, v => v = 0 ∨ v = 1
  | _, _ => False
/-- may places be made: some n: yes, behind the first n -/
def zz_gr : Option Nat → Nat → Bool
  | some n, k => Nat.ble n k
  | none, _ => false
def zz_sw (k : Nat → Prop) (d : Nat) (x : Int32) : List (Int32 × Nat) → Prop
  | [] => k d
  | q :: r => (x = q.1 → k q.2) ∧ (¬ x = q.1 → zz_sw k d x r)
/-- one instruction: what must hold ahead of it, for k to hold behind it -/
def zz_i (tF : Nat → Nat → FieldType) (RC RS : Nat) (gr : Option Nat) (rt : Option FieldType) (cl : Nat → Nat → Option zz_Y) (sw : Nat → List (Int32 × Nat)) (k : zz_K) (ret : Option Value → List va_E → Nat → Nat → Prop) (xx : Nat → String → List (Option Value) → List va_E → Nat → Nat → Prop)
    (pc : Nat) (ls : List (Option Value)) (st : List Value) (ws : List va_E) (nc ns : Nat) (i : Instr) (v : Int32) (w : Int64) (a b : Nat) : Prop :=
  match i with
  | .iconst _ => k (pc + 1) ls (.int v :: st) ws nc ns
  | .bipush _ => k (pc + 2) ls (.int v :: st) ws nc ns
  | .sipush _ => k (pc + 3) ls (.int v :: st) ws nc ns
  | .ldc _ => k (pc + 2) ls (.int v :: st) ws nc ns
  | .ldc_w _ => k (pc + 3) ls (.int v :: st) ws nc ns
  | .ldc2_w _ => k (pc + 3) ls (.long w :: st) ws nc ns
  | .lconst _ => k (pc + 1) ls (.long w :: st) ws nc ns
  | .iload_n _ => match ls[a]? with
    | some (some (.int x)) => k (pc + 1) ls (.int x :: st) ws nc ns
    | _ => False
  | .iload _ => match ls[a]? with
    | some (some (.int x)) => k (pc + 2) ls (.int x :: st) ws nc ns
    | _ => False
  | .lload_n _ => match ls[a]? with
    | some (some (.long x)) => k (pc + 1) ls (.long x :: st) ws nc ns
    | _ => False
  | .lload _ => match ls[a]? with
    | some (some (.long x)) => k (pc + 2) ls (.long x :: st) ws nc ns
    | _ => False
  | .aload_n _ => match ls[a]? with
    | some (some (.ref x)) => k (pc + 1) ls (.ref x :: st) ws nc ns
    | _ => False
  | .aload _ => match ls[a]? with
    | some (some (.ref x)) => k (pc + 2) ls (.ref x :: st) ws nc ns
    | _ => False
  | .istore_n _ => match st with
    | .int x :: r => bif zz_nl ls a then k (pc + 1) (ls.set a (some (.int x))) r ws nc ns else False
    | _ => False
  | .istore _ => match st with
    | .int x :: r => bif zz_nl ls a then k (pc + 2) (ls.set a (some (.int x))) r ws nc ns else False
    | _ => False
  | .astore_n _ => match st with
    | .ref x :: r => bif zz_nl ls a then k (pc + 1) (ls.set a (some (.ref x))) r ws nc ns else False
    | _ => False
  | .astore _ => match st with
    | .ref x :: r => bif zz_nl ls a then k (pc + 2) (ls.set a (some (.ref x))) r ws nc ns else False
    | _ => False
  | .lstore_n _ => match st with
    | .long x :: r => k (pc + 1) (zz_s2 ls a (.long x)) r ws nc ns
    | _ => False
  | .lstore _ => match st with
    | .long x :: r => k (pc + 2) (zz_s2 ls a (.long x)) r ws nc ns
    | _ => False
  | .iinc _ _ => match ls[a]? with
    | some (some (.int x)) => bif zz_nl ls a then k (pc + 3) (ls.set a (some (.int (x + v)))) st ws nc ns else False
    | _ => False
  | .iadd => match st with
    | .int y :: .int x :: r => k (pc + 1) ls (.int (x + y) :: r) ws nc ns
    | _ => False
  | .isub => match st with
    | .int y :: .int x :: r => k (pc + 1) ls (.int (x - y) :: r) ws nc ns
    | _ => False
  | .imul => match st with
    | .int y :: .int x :: r => k (pc + 1) ls (.int (x * y) :: r) ws nc ns
    | _ => False
  | .iand => match st with
    | .int y :: .int x :: r => k (pc + 1) ls (.int (x &&& y) :: r) ws nc ns
    | _ => False
  | .ior => match st with
    | .int y :: .int x :: r => k (pc + 1) ls (.int (x ||| y) :: r) ws nc ns
    | _ => False
  | .ixor => match st with
    | .int y :: .int x :: r => k (pc + 1) ls (.int (x ^^^ y) :: r) ws nc ns
    | _ => False
  | .ishl => match st with
    | .int y :: .int x :: r => k (pc + 1) ls (.int (x <<< (y &&& 31)) :: r) ws nc ns
    | _ => False
  | .ishr => match st with
    | .int y :: .int x :: r => k (pc + 1) ls (.int (x >>> (y &&& 31)) :: r) ws nc ns
    | _ => False
  | .idiv => match st with
    | .int y :: .int x :: r => ¬ y = 0 ∧ k (pc + 1) ls (.int (x / y) :: r) ws nc ns
    | _ => False
  | .irem => match st with
    | .int y :: .int x :: r => ¬ y = 0 ∧ k (pc + 1) ls (.int (x - x / y * y) :: r) ws nc ns
    | _ => False
  | .ineg => match st with
    | .int x :: r => k (pc + 1) ls (.int (-x) :: r) ws nc ns
    | _ => False
  | .i2l => match st with
    | .int x :: r => k (pc + 1) ls (.long x.toInt64 :: r) ws nc ns
    | _ => False
  | .l2i => match st with
    | .long x :: r => k (pc + 1) ls (.int x.toInt32 :: r) ws nc ns
    | _ => False
  | .ladd => match st with
    | .long y :: .long x :: r => k (pc + 1) ls (.long (x + y) :: r) ws nc ns
    | _ => False
  | .lsub => match st with
    | .long y :: .long x :: r => k (pc + 1) ls (.long (x - y) :: r) ws nc ns
    | _ => False
  | .land => match st with
    | .long y :: .long x :: r => k (pc + 1) ls (.long (x &&& y) :: r) ws nc ns
    | _ => False
  | .lor => match st with
    | .long y :: .long x :: r => k (pc + 1) ls (.long (x ||| y) :: r) ws nc ns
    | _ => False
  | .lxor => match st with
    | .long y :: .long x :: r => k (pc + 1) ls (.long (x ^^^ y) :: r) ws nc ns
    | _ => False
  | .lshl => match st with
    | .int y :: .long x :: r => k (pc + 1) ls (.long (x <<< (y.toInt64 &&& 63)) :: r) ws nc ns
    | _ => False
  | .lshr => match st with
    | .int y :: .long x :: r => k (pc + 1) ls (.long (x >>> (y.toInt64 &&& 63)) :: r) ws nc ns
    | _ => False
  | .lushr => match st with
    | .int y :: .long x :: r => k (pc + 1) ls (.long (x.toUInt64 >>> (y.toInt64.toUInt64 &&& Int64.toUInt64 63)).toInt64 :: r) ws nc ns
    | _ => False
  | .iushr => match st with
    | .int y :: .int x :: r => k (pc + 1) ls (.int (x.toUInt32 >>> (y.toUInt32 &&& Int32.toUInt32 31)).toInt32 :: r) ws nc ns
    | _ => False
  | .lcmp => match st with
    | .long y :: .long x :: r => k (pc + 1) ls (.int (lg_cmp x y) :: r) ws nc ns
    | _ => False
  | .dup => match st with
    | x :: r => bif Nat.beq x.category 1 then k (pc + 1) ls (x :: x :: r) ws nc ns else False
    | _ => False
  | .pop => match st with
    | x :: r => bif Nat.beq x.category 1 then k (pc + 1) ls r ws nc ns else False
    | _ => False
  | .dup_x1 => match st with
    | x :: y :: r => bif Nat.beq x.category 1 && Nat.beq y.category 1 then k (pc + 1) ls (x :: y :: x :: r) ws nc ns else False
    | _ => False
  | .dup_x2 => match st with
    | x :: y :: z :: r => bif Nat.beq x.category 1 && (Nat.beq y.category 1 && Nat.beq z.category 1) then k (pc + 1) ls (x :: y :: z :: x :: r) ws nc ns else False
    | _ => False
  | .dup2 => match st with
    | x :: r => bif Nat.beq x.category 2 then k (pc + 1) ls (x :: x :: r) ws nc ns else (match r with
      | y :: r => bif Nat.beq x.category 1 && Nat.beq y.category 1 then k (pc + 1) ls (x :: y :: x :: y :: r) ws nc ns else False
      | _ => False)
    | _ => False
  | .goto _ => k a ls st ws nc ns
  | .ifCond q _ => match st with
    | .int x :: r => (zz_c0 q x → k a ls r ws nc ns) ∧ (zz_n0 q x → k (pc + 3) ls r ws nc ns)
    | _ => False
  | .if_icmp q _ => match st with
    | .int y :: .int x :: r => (zz_c2 q x y → k a ls r ws nc ns) ∧ (zz_n2 q x y → k (pc + 3) ls r ws nc ns)
    | _ => False
  | .tableswitch _ _ _ _ => match st with
    | .int x :: r => zz_sw (fun t => k t ls r ws nc ns) a x (sw pc)
    | _ => False
  | .lookupswitch _ _ => match st with
    | .int x :: r => zz_sw (fun t => k t ls r ws nc ns) a x (sw pc)
    | _ => False
  | .getfield _ => match st with
    | .ref q :: r => match ws[q]? with
      | some (.inr (ci, fs)) => bif Nat.beq ci a then (match fs[b]? with
        | some x => k (pc + 3) ls (x :: r) ws nc ns
        | none => False) else False
      | _ => False
    | _ => False
  | .putfield _ => match st with
    | x :: .ref q :: r => match ws[q]? with
      | some (.inr (ci, fs)) => bif Nat.beq ci a && (zz_fit (tF a b) x && Nat.blt b fs.length) then k (pc + 3) ls r (ws.set q (.inr (ci, fs.set b x))) nc ns else False
      | _ => False
    | _ => False
  | .iaload => match st with
    | .int j :: .ref q :: r => match ws[q]? with
      | some (.inl (0, n, .inl f)) => vp_in j n ∧ k (pc + 1) ls (.int (f j.toNatClampNeg) :: r) ws nc ns
      | _ => False
    | _ => False
  | .baload => match st with
    | .int j :: .ref q :: r => match ws[q]? with
      | some (.inl (1, n, .inl f)) => vp_in j n ∧ k (pc + 1) ls (.int (f j.toNatClampNeg) :: r) ws nc ns
      | _ => False
    | _ => False
  | .laload => match st with
    | .int j :: .ref q :: r => match ws[q]? with
      | some (.inl (2, n, .inr (.inl f))) => vp_in j n ∧ k (pc + 1) ls (.long (f j.toNatClampNeg) :: r) ws nc ns
      | _ => False
    | _ => False
  | .iastore => match st with
    | .int x :: .int j :: .ref q :: r => match ws[q]? with
      | some (.inl (0, n, .inl f)) => vp_in j n ∧ k (pc + 1) ls r (ws.set q (.inl (0, n, .inl (upd f j.toNatClampNeg x)))) nc ns
      | _ => False
    | _ => False
  | .bastore => match st with
    | .int x :: .int j :: .ref q :: r => match ws[q]? with
      | some (.inl (1, n, .inl f)) => vp_in j n ∧ k (pc + 1) ls r (ws.set q (.inl (1, n, .inl (upd f j.toNatClampNeg (vp_nar .boolean x))))) nc ns
      | _ => False
    | _ => False
  | .lastore => match st with
    | .long x :: .int j :: .ref q :: r => match ws[q]? with
      | some (.inl (2, n, .inr (.inl f))) => vp_in j n ∧ k (pc + 1) ls r (ws.set q (.inl (2, n, .inr (.inl (vp_updL f j.toNatClampNeg x))))) nc ns
      | _ => False
    | _ => False
  | .arraylength => match st with
    | .ref q :: r => match ws[q]? with
      | some (.inl (0, n, _)) => k (pc + 1) ls (.int (nI n) :: r) ws nc ns
      | some (.inl (1, n, _)) => k (pc + 1) ls (.int (nI n) :: r) ws nc ns
      | some (.inl (2, n, _)) => k (pc + 1) ls (.int (nI n) :: r) ws nc ns
      | _ => False
    | _ => False
  | .new _ => (zz_gr gr ws.length = true ∧ zz_cl ws.length ls st ws = true ∧ nc + 1 ≤ RC ∧ ns + b ≤ RS) ∧ k (pc + 3) ls (.ref ws.length :: st) (ws ++ [.inr (a, zz_df tF a b)]) (nc + 1) (ns + b)
  | .newarray t => match st with
    | .int x :: r => match t with
      | .int => (zz_gr gr ws.length = true ∧ zz_cl ws.length ls r ws = true ∧ nc + 1 ≤ RC ∧ ns + a ≤ RS ∧ x = nI a ∧ a ≤ 65536) ∧ k (pc + 2) ls (.ref ws.length :: r) (ws ++ [.inl (0, a, .inl (fun _ => 0))]) (nc + 1) (ns + a)
      | .boolean => (zz_gr gr ws.length = true ∧ zz_cl ws.length ls r ws = true ∧ nc + 1 ≤ RC ∧ ns + a ≤ RS ∧ x = nI a ∧ a ≤ 65536) ∧ k (pc + 2) ls (.ref ws.length :: r) (ws ++ [.inl (1, a, .inl (fun _ => 0))]) (nc + 1) (ns + a)
      | .long => (zz_gr gr ws.length = true ∧ zz_cl ws.length ls r ws = true ∧ nc + 1 ≤ RC ∧ ns + a ≤ RS ∧ x = nI a ∧ a ≤ 65536) ∧ k (pc + 2) ls (.ref ws.length :: r) (ws ++ [.inl (2, a, .inr (.inl (fun _ => 0)))]) (nc + 1) (ns + a)
      | _ => False
    | _ => False
  | .ireturn => match st with
    | [.int x] => zz_rt rt x ∧ ret (some (.int x)) ws nc ns
    | _ => False
  | .return_ => match st with
    | [] => rt = none ∧ ret none ws nc ns
    | _ => False
  | .invokespecial idx => bif Nat.beq a 1 then (match st with
      | .ref _ :: r => bif Nat.ble (r.map (fun v => v.category)).sum 8 then k (pc + 3) ls r ws nc ns else False
      | _ => False)
    else (match cl 2 idx with
      | some (n, g, mc, ms, pt) => (Nat.ble n st.length = true ∧ Nat.ble ((st.drop n).map (fun v => v.category)).sum 8 = true ∧ (bif g then zz_gr gr ws.length && zz_cl ws.length ls (st.drop n) [] else true) = true ∧ nc + (mc + 1) ≤ RC ∧ ns + (ms + 6) ≤ RS) ∧
          pt (st.take n).reverse ws (fun r ws' => k (pc + 3) ls (r.toList ++ st.drop n) ws' (nc + mc) (ns + ms)) (fun E ws' => xx pc E ls ws' (nc + (mc + 1)) (ns + (ms + 6)))
      | none => False)
  | .invokevirtual idx => (match cl 0 idx with
      | some (n, g, mc, ms, pt) => (Nat.ble n st.length = true ∧ Nat.ble ((st.drop n).map (fun v => v.category)).sum 8 = true ∧ (bif g then zz_gr gr ws.length && zz_cl ws.length ls (st.drop n) [] else true) = true ∧ nc + (mc + 1) ≤ RC ∧ ns + (ms + 6) ≤ RS) ∧
          pt (st.take n).reverse ws (fun r ws' => k (pc + 3) ls (r.toList ++ st.drop n) ws' (nc + mc) (ns + ms)) (fun E ws' => xx pc E ls ws' (nc + (mc + 1)) (ns + (ms + 6)))
      | none => False)
  | .invokestatic idx => (match cl 1 idx with
      | some (n, g, mc, ms, pt) => (Nat.ble n st.length = true ∧ Nat.ble ((st.drop n).map (fun v => v.category)).sum 8 = true ∧ (bif g then zz_gr gr ws.length && zz_cl ws.length ls (st.drop n) [] else true) = true ∧ nc + (mc + 1) ≤ RC ∧ ns + (ms + 6) ≤ RS) ∧
          pt (st.take n).reverse ws (fun r ws' => k (pc + 3) ls (r.toList ++ st.drop n) ws' (nc + mc) (ns + ms)) (fun E ws' => xx pc E ls ws' (nc + (mc + 1)) (ns + (ms + 6)))
      | none => False)
  | _ => False
