/-! THE RUN: a small machine over numbered cells; its words (codes, links, constants) are sought in lw_tbl. What it answers, the JVM's model answers (03.sound). -/
abbrev rs_C : Type := Nat × Nat × (Nat → Value)
abbrev rs_H : Type := (Nat → Option rs_C) × Nat × Nat
abbrev rs_L : Type := List (Option Value)
abbrev rs_O : Type := (Nat × rs_L × List Value × rs_H) ⊕ ((MethodName × List Value × Nat × List Value) ⊕ Option Value)
abbrev rs_I : Type := Instr × Nat × Nat × Nat × List (Int32 × Nat) × Value
abbrev rs_cl : List vw_C := [(RX1, TX1, 8), (RX2, TX2, 3), (RX3, TX3, 7), (RX4, TX4, 3), (RX5, TX5, 5), (RX6, TX6, 10), (RX7, TX7, 5), (RX8, TX8, 5), (RX9, TX9, 1), (RX10, TX10, 3), (RX11, TX11, 9), (RX12, TX12, 43)]
def rs_ty : Nat → Nat → FieldType := fun k => match k with
  | 0 => tyX1
  | 1 => tyX2
  | 2 => tyX3
  | 3 => tyX4
  | 4 => tyX5
  | 5 => tyX6
  | 6 => tyX7
  | 7 => tyX8
  | 8 => tyX9
  | 9 => tyX10
  | 10 => tyX11
  | _ => tyX12
/-- the kinds of arrays: what they hold -/
def rs_aty : Nat → Option FieldType := fun k => match k with
  | 12 => some .int
  | 13 => some .long
  | 14 => some .boolean
  | 15 => some (.object RX1)
  | 16 => some (.object RX2)
  | 17 => some (.object RX5)
  | 18 => some (.object RX7)
  | 19 => some (.object RX8)
  | _ => none
/-- an array's kind: the kind of the objects that it may hold -/
def rs_ak : Nat → Nat := fun k => match k with
  | 15 => 0
  | 16 => 1
  | 17 => 4
  | 18 => 6
  | 19 => 7
  | _ => 99
/-! the words -/
def rs_codeT (y : MethodName) : Option (ByteArray × Nat × Option FieldType) := lw_tbl.findSome? fun w => match w with
  | .code y' b n r => if y' = y then some (b, n, r) else none
  | _ => none
def rs_code (y : MethodName) : Option (ByteArray × Nat × Option FieldType) := if y = x then some (code, 4, some .boolean) else rs_codeT y
def rs_qk (u w : Jvm.Cond) : Bool := match u, w with
  | .static a, .static b => a.name == b.name
  | .instanceMethod a, .instanceMethod b => a.name == b.name
  | .selects _ a _, .selects _ b _ => a.name == b.name
  | .initialized _, .initialized _ => true
  | .static _, _ => false
  | .instanceMethod _, _ => false
  | .selects _ _ _, _ => false
  | .code _ _ _ _, .code _ _ _ _ => true
  | .code _ _ _ _, _ => false
  | .methodLink _ _ _, .methodLink _ _ _ => true
  | .methodLink _ _ _, _ => false
  | _, _ => true
def rs_has (w : Cond) : Bool := lw_tbl.any fun u => rs_qk u w && decide (u = w)
def rs_ml (own : String) (i : Nat) : Option (MethodName × Option String) := lw_tbl.findSome? fun w => match w with
  | .methodLink o k y => if k = i ∧ o = own then some (y, none) else none
  | .methodLinkNest o k y h => if k = i ∧ o = own then some (y, some h) else none
  | _ => none
def rs_oi (own : String) (i : Nat) : Bool := decide (rs_ml own i = some (Lib.objectInit, none))
def rs_jm (own : String) (i : Nat) : Option Nat := match rs_ml own i with
  | some (y, none) => if y = Lib.Math.max.name then some 0 else if y = Lib.MathLoose.max_long.x then some 1 else if y = Lib.MathLoose.min_long.x then some 2 else none
  | _ => none
def rs_kindOf (C : String) : Nat := (List.range 12).findIdx fun k => match rs_cl[k]? with
  | some r => r.1 == C
  | none => false
def rs_mk (mode : Nat) (y : MethodName) (r : Option FieldType) : Bool := match mode with
  | 0 => rs_has (.static y)
  | 1 => rs_has (.instanceMethod y) && (rs_has (.selects y.cls y y) && decide (rs_kindOf y.cls < 12))
  | _ => rs_has (.instanceMethod y) && (decide (y.name = "<init>") && decide (r = none))
/-- a call's link: the method, the number of its arguments, its class's kind; mode 0 static, 1 virtual, 2 special -/
def rs_lk (mode : Nat) (own : String) (i : Nat) : Option (MethodName × Nat × Nat) := match rs_ml own i with
  | none => none
  | some q => match (parseMethodDescriptor q.1.desc).map (fun d => d.parameters.length), rs_codeT q.1 with
    | some n, some cd => if (rs_has (.initialized q.1.cls) && (plainName q.1.cls && (decide (q.1.cls ≠ "java/lang/invoke/MethodHandle" ∧ q.1.cls ≠ "java/lang/invoke/VarHandle") && (decide (cd.2.1 ≤ 40) && (decide (q.1 ≠ x) &&
        rs_mk mode q.1 cd.2.2))))) = true then some (q.1, n, rs_kindOf q.1.cls) else none
    | _, _ => none
def rs_fl (own : String) (i : Nat) : Option (Nat × Nat × FieldType × Bool) := match (lw_tbl.findSome? fun w => match w with
    | .fieldLink o k ref nm ds => if k = i ∧ o = own then some (ref, nm, ds) else none
    | _ => none) with
  | none => none
  | some q => (List.range 12).findSome? fun k => match rs_cl[k]? with
    | some r => if r.1 = q.1 then (List.range r.2.2).findSome? fun j => if (r.2.1 j).1 = q.1 ∧ (r.2.1 j).2.1 = q.2.1 ∧ (r.2.1 j).2.2.1 = q.2.2 then some (k, j, rs_ty k j, (r.2.1 j).2.2.2) else none else none
    | none => none
def rs_dcl (k j : Nat) (C : String) : Bool := match rs_cl[k]? with
  | some r => decide ((r.2.1 j).1 = C)
  | none => false
def rs_pfl (y : MethodName) (i : Nat) : Option (Nat × Nat × FieldType) := match rs_fl y.cls i with
  | none => none
  | some q => if (!q.2.2.2 || (decide (y.name = "<init>") && rs_dcl q.1 q.2.1 y.cls)) = true then some (q.1, q.2.1, q.2.2.1) else none
def rs_ic (own : String) (i : Nat) : Option Int32 := lw_tbl.findSome? fun w => match w with
  | .constant o k v => if k = i ∧ o = own then some v else none
  | _ => none
def rs_lc (own : String) (i : Nat) : Option Int64 := lw_tbl.findSome? fun w => match w with
  | .constantLong o k v => if k = i ∧ o = own then some v else none
  | _ => none
def rs_cn (own : String) (i : Nat) : Option String := lw_tbl.findSome? fun w => match w with
  | .classLink o k C => if k = i ∧ o = own then some C else none
  | _ => none
def rs_nw (own : String) (i : Nat) : Option (Nat × Nat) := match rs_cn own i with
  | none => none
  | some C => match rs_cl[rs_kindOf C]? with
    | some r => if (r.1 == C && (rs_has (.instantiable C r.2.2) && rs_has (.initialized C))) = true then some (rs_kindOf C, r.2.2) else none
    | none => none
def rs_na (own : String) (i : Nat) : Option Nat := match rs_cn own i with
  | none => none
  | some C => if rs_has (.arrayOver (.object C)) = true then (List.range 20).findSome? fun k => if rs_aty k = some (.object C) then some k else none else none
def rs_nk (t : ArrayType) : Option Nat := if rs_has (.arrayClass (newarray.typeOf t)) = true then (List.range 20).findSome? fun k => if rs_aty k = some (newarray.typeOf t) then some k else none else none
/-! an instruction, decoded: its length, the next one's place, the branch's target, a switch's cases, the constant that it pushes -/
def rs_len : Instr → Nat
  | .aload _ | .iload _ | .lload _ | .astore _ | .istore _ | .lstore _ | .bipush _ | .ldc _ | .newarray _ => 2
  | .sipush _ | .ldc_w _ | .ldc2_w _ | .getfield _ | .putfield _ | .invokevirtual _ | .invokespecial _ | .invokestatic _ | .new _ | .anewarray _ | .iinc _ _ | .goto _ | .ifCond _ _ | .if_icmp _ _ | .ifnull _ | .ifnonnull _ => 3
  | _ => 1
def rs_off : Instr → Int
  | .goto o => o
  | .ifCond _ o => o
  | .if_icmp _ o => o
  | .ifnull o => o
  | .ifnonnull o => o
  | .tableswitch d _ _ _ => d
  | _ => 0
def rs_okI (pc n : Nat) (i : Instr) : Bool := decide (0 ≤ (pc : Int) + rs_off i) && (match i with
  | .tableswitch _ lo hi offs => decide (-2147483648 ≤ lo) && (decide (hi ≤ 2147483647) && (decide (hi - lo + 1 = (offs.size : Int)) && offs.toList.all (fun o => decide (0 ≤ (pc : Int) + o))))
  | _ => decide (n = rs_len i))
def rs_cs (pc : Nat) : Instr → List (Int32 × Nat)
  | .tableswitch _ lo _ offs => (List.range offs.size).map fun (j : Nat) => (Int32.ofInt (lo + (j : Int)), ((pc : Int) + offs.toList.getD j 0).toNat)
  | _ => []
def rs_cv (own : String) : Instr → Value
  | .iconst n => .int (Int32.ofInt n)
  | .bipush n => .int (Int8.ofInt n).toInt32
  | .sipush n => .int (Int16.ofInt n).toInt32
  | .lconst n => .long (Int64.ofNat n.val)
  | .iinc _ n => .int (Int32.ofInt n)
  | .ldc i => match rs_ic own i with
    | some v => .int v
    | none => .null
  | .ldc_w i => match rs_ic own i with
    | some v => .int v
    | none => .null
  | .ldc2_w i => match rs_lc own i with
    | some v => .long v
    | none => .null
  | _ => .null
def rs_dec (y : MethodName) (pc : Nat) : Option rs_I := match rs_code y with
  | none => none
  | some q => match decode q.1 pc with
    | .error _ => none
    | .ok r => if rs_okI pc r.2 r.1 = true then some (r.1, r.2, pc + r.2, ((pc : Int) + rs_off r.1).toNat, rs_cs pc r.1, rs_cv y.cls r.1) else none
def rs_rt (y : MethodName) : Option FieldType := match rs_code y with
  | some q => q.2.2
  | none => none
/-! locals -/
def rs_ld : rs_L → Nat → Option Value
  | [], _ => none
  | a :: _, 0 => a
  | _ :: l, k + 1 => rs_ld l k
def rs_dr : Option Value → Option Value
  | some (.long _) => none
  | some (.double _) => none
  | z => z
def rs_st1 : rs_L → Nat → Value → Option rs_L
  | [], _, _ => none
  | _ :: l, 0, v => some (some v :: l)
  | a :: l, 1, v => match l with
    | [] => none
    | _ :: l' => some (rs_dr a :: some v :: l')
  | a :: l, k + 2, v => (rs_st1 l (k + 1) v).map (a :: ·)
def rs_st2 : rs_L → Nat → Value → Option rs_L
  | [], _, _ => none
  | _ :: l, 0, v => match l with
    | [] => none
    | _ :: l' => some (some v :: none :: l')
  | a :: l, 1, v => match l with
    | _ :: _ :: l' => some (rs_dr a :: some v :: none :: l')
    | _ => none
  | a :: l, k + 2, v => (rs_st2 l (k + 1) v).map (a :: ·)
def rs_c2 : Value → Bool
  | .long _ => true
  | .double _ => true
  | _ => false
def rs_al : List Value → rs_L
  | [] => []
  | v :: vs => if rs_c2 v = true then some v :: none :: rs_al vs else some v :: rs_al vs
def rs_ent (y : MethodName) (as : List Value) : Option rs_L := match rs_code y with
  | none => none
  | some q => if (rs_al as).length ≤ q.2.1 then some (rs_al as ++ List.replicate (q.2.1 - (rs_al as).length) none) else none
def rs_isr : Value → Bool
  | .ref _ => true
  | .null => true
  | _ => false
def rs_pop : Nat → List Value → List Value → Option (List Value × List Value)
  | 0, acc, st => some (acc, st)
  | n + 1, acc, v :: st => rs_pop n (v :: acc) st
  | _ + 1, _, [] => none
def rs_s4 : List Value → Bool
  | [] => true
  | [_] => true
  | [_, _] => true
  | [_, _, _] => true
  | [_, _, _, _] => true
  | [a, b, c, d, e] => !(rs_c2 a || (rs_c2 b || (rs_c2 c || (rs_c2 d || rs_c2 e))))
  | [a, b, c, d, e, f] => !(rs_c2 a || (rs_c2 b || (rs_c2 c || (rs_c2 d || (rs_c2 e || rs_c2 f)))))
  | _ => false
def rs_push : Option Value → List Value → List Value
  | none, s => s
  | some v, s => v :: s
def rs_up (w : rs_H) (q : Nat) (c : rs_C) : rs_H := (va_up w.1 q (some c), w.2)
def rs_new (w : rs_H) (c : rs_C) : rs_H := (va_up w.1 w.2.1 (some c), w.2.1 + 1, w.2.2 + c.2.1)
def rs_sw : List (Int32 × Nat) → Nat → Int32 → Nat
  | [], t, _ => t
  | q :: r, t, v => if v = q.1 then q.2 else rs_sw r t v
def rs_okA (w : rs_H) (k : Nat) : Value → Bool
  | .null => true
  | .ref r => match w.1 r with
    | some c => decide (c.1 = rs_ak k)
    | none => false
  | _ => false
/-! one step -/
def rs_ii (f : Int32 → Int32 → Option Value) : List Value → Option (List Value)
  | .int b :: .int a :: s => (f a b).map (· :: s)
  | _ => none
def rs_ll (f : Int64 → Int64 → Option Value) : List Value → Option (List Value)
  | .long b :: .long a :: s => (f a b).map (· :: s)
  | _ => none
def rs_li (f : Int64 → Int32 → Value) : List Value → Option (List Value)
  | .int b :: .long a :: s => some (f a b :: s)
  | _ => none
def rs_i1 (f : Int32 → Value) : List Value → Option (List Value)
  | .int a :: s => some (f a :: s)
  | _ => none
def rs_l1 (f : Int64 → Value) : List Value → Option (List Value)
  | .long a :: s => some (f a :: s)
  | _ => none
def rs_dup : List Value → Option (List Value)
  | v :: s => if rs_c2 v = true then none else some (v :: v :: s)
  | [] => none
def rs_dup2 : List Value → Option (List Value)
  | v :: s => if rs_c2 v = true then some (v :: v :: s) else match s with
    | u :: s' => if rs_c2 u = true then none else some (v :: u :: v :: u :: s')
    | [] => none
  | [] => none
def rs_alu (i : Instr) (st : List Value) : Option (List Value) := match i with
  | .iadd => rs_ii (fun a b => some (.int (a + b))) st
  | .isub => rs_ii (fun a b => some (.int (a - b))) st
  | .imul => rs_ii (fun a b => some (.int (a * b))) st
  | .iand => rs_ii (fun a b => some (.int (a &&& b))) st
  | .ior => rs_ii (fun a b => some (.int (a ||| b))) st
  | .ixor => rs_ii (fun a b => some (.int (a ^^^ b))) st
  | .idiv => rs_ii (fun a b => if b = 0 then none else some (.int (a / b))) st
  | .irem => rs_ii (fun a b => if b = 0 then none else some (.int (a - a / b * b))) st
  | .ishl => rs_ii (fun a b => some (.int (a <<< (b &&& 31)))) st
  | .ishr => rs_ii (fun a b => some (.int (a >>> (b &&& 31)))) st
  | .iushr => rs_ii (fun a b => some (.int (a.toUInt32 >>> (b.toUInt32 &&& Int32.toUInt32 31)).toInt32)) st
  | .ladd => rs_ll (fun a b => some (.long (a + b))) st
  | .lsub => rs_ll (fun a b => some (.long (a - b))) st
  | .lmul => rs_ll (fun a b => some (.long (a * b))) st
  | .land => rs_ll (fun a b => some (.long (a &&& b))) st
  | .ldiv => rs_ll (fun a b => if b = 0 then none else some (.long (a / b))) st
  | .lrem => rs_ll (fun a b => if b = 0 then none else some (.long (a - a / b * b))) st
  | .lcmp => rs_ll (fun a b => some (.int (lg_cmp a b))) st
  | .lshl => rs_li (fun a b => .long (a <<< (b.toInt64 &&& 63))) st
  | .lshr => rs_li (fun a b => .long (a >>> (b.toInt64 &&& 63))) st
  | .i2l => rs_i1 (fun a => .long a.toInt64) st
  | .l2i => rs_l1 (fun a => .int a.toInt32) st
  | .dup => rs_dup st
  | .dup2 => rs_dup2 st
  | .aconst_null => some (.null :: st)
  | _ => none
def rs_c0 (c : ClassFile.Cond) (a b : Int32) : Prop := match c with
  | .eq => a = b
  | .ne => ¬ a = b
  | .lt => a < b
  | .ge => b ≤ a
  | .gt => b < a
  | .le => a ≤ b
def rs_cb (c : ClassFile.Cond) (a b : Int32) : Bool := match c with
  | .eq => decide (a = b)
  | .ne => decide (¬ a = b)
  | .lt => decide (a < b)
  | .ge => decide (b ≤ a)
  | .gt => decide (b < a)
  | .le => decide (a ≤ b)
def rs_load (i : Instr) (l : rs_L) : Option Value := match i with
  | .iload k => match rs_ld l k with
    | some (.int v) => some (.int v)
    | _ => none
  | .iload_n k => match rs_ld l k.val with
    | some (.int v) => some (.int v)
    | _ => none
  | .lload k => match rs_ld l k with
    | some (.long v) => some (.long v)
    | _ => none
  | .lload_n k => match rs_ld l k.val with
    | some (.long v) => some (.long v)
    | _ => none
  | .aload k => match rs_ld l k with
    | some v => if rs_isr v = true then some v else none
    | _ => none
  | .aload_n k => match rs_ld l k.val with
    | some v => if rs_isr v = true then some v else none
    | _ => none
  | _ => none
def rs_store (i : Instr) (l : rs_L) (v : Value) : Option rs_L := match i with
  | .istore k => match v with
    | .int z => rs_st1 l k (.int z)
    | _ => none
  | .istore_n k => match v with
    | .int z => rs_st1 l k.val (.int z)
    | _ => none
  | .lstore k => match v with
    | .long z => rs_st2 l k (.long z)
    | _ => none
  | .lstore_n k => match v with
    | .long z => rs_st2 l k.val (.long z)
    | _ => none
  | .astore k => if rs_isr v = true then rs_st1 l k v else none
  | .astore_n k => if rs_isr v = true then rs_st1 l k.val v else none
  | _ => none
/-- arrays: the kind that an instruction reads or writes; 99 one of references -/
def rs_aload (i : Instr) : Option Nat := match i with
  | .iaload => some 12
  | .laload => some 13
  | .baload => some 14
  | .aaload => some 99
  | _ => none
def rs_okK (k k' : Nat) : Bool := if k = 99 then decide (15 ≤ k' ∧ k' < 20) else decide (k' = k)
def rs_astore (i : Instr) : Option Nat := match i with
  | .iastore => some 12
  | .lastore => some 13
  | .bastore => some 14
  | .aastore => some 99
  | _ => none
def rs_okV (w : rs_H) (k k' : Nat) (v : Value) : Bool := match k, v with
  | 12, .int _ => true
  | 13, .long _ => true
  | 14, .int z => decide (z = 0 ∨ z = 1)
  | 99, v => rs_okA w k' v
  | _, _ => false
def rs_call (lk : Option (MethodName × Nat × Nat)) (mode nx : Nat) (st : List Value) (w : rs_H) : Option rs_O := match lk with
  | none => none
  | some f => match rs_pop f.2.1 [] st with
    | none => none
    | some ar => match mode with
      | 0 => if rs_s4 ar.2 = true then some (.inr (.inl (f.1, ar.1, nx, ar.2))) else none
      | 1 => match ar.2 with
        | .ref q :: rest => match w.1 q with
          | some c => if (decide (c.1 = f.2.2) && rs_s4 rest) = true then some (.inr (.inl (f.1, .ref q :: ar.1, nx, rest))) else none
          | none => none
        | _ => none
      | _ => match ar.2 with
        | .ref q :: rest => if rs_s4 rest = true then some (.inr (.inl (f.1, .ref q :: ar.1, nx, rest))) else none
        | _ => none
def rs_get (f : Option (Nat × Nat × FieldType × Bool)) (st : List Value) (w : rs_H) : Option (List Value) := match f, st with
  | some f, .ref q :: s => match w.1 q with
    | some c => if c.1 = f.1 then some (c.2.2 f.2.1 :: s) else none
    | none => none
  | _, _ => none
def rs_put (f : Option (Nat × Nat × FieldType)) (st : List Value) (w : rs_H) : Option (List Value × rs_H) := match f, st with
  | some f, v :: .ref q :: s => match w.1 q with
    | some c => if c.1 = f.1 ∧ fits f.2.2 v = true then some (s, rs_up w q (c.1, c.2.1, va_up c.2.2 f.2.1 v)) else none
    | none => none
  | _, _ => none
def rs_ald (k : Nat) (st : List Value) (w : rs_H) : Option (List Value) := match st with
  | .int i :: .ref q :: s => match w.1 q with
    | some c => if rs_okK k c.1 = true ∧ ¬ i < 0 ∧ i.toNatClampNeg < c.2.1 then some (c.2.2 i.toNatClampNeg :: s) else none
    | none => none
  | _ => none
def rs_ast (k : Nat) (st : List Value) (w : rs_H) : Option (List Value × rs_H) := match st with
  | v :: .int i :: .ref q :: s => match w.1 q with
    | some c => if (¬ q = 0 ∧ rs_okK k c.1 = true ∧ rs_okV w k c.1 v = true) ∧ ¬ i < 0 ∧ i.toNatClampNeg < c.2.1 then some (s, rs_up w q (c.1, c.2.1, va_up c.2.2 i.toNatClampNeg v)) else none
    | none => none
  | _ => none
def rs_alen (st : List Value) (w : rs_H) : Option (List Value) := match st with
  | .ref q :: s => match w.1 q with
    | some c => if 12 ≤ c.1 then some (.int (Int32.ofNat c.2.1) :: s) else none
    | none => none
  | _ => none
def rs_newa (k : Option Nat) (st : List Value) (w : rs_H) : Option (List Value × rs_H) := match k, st with
  | some k, .int n :: s => if ¬ n < 0 ∧ n.toNatClampNeg ≤ 65536 then some (.ref w.2.1 :: s, rs_new w (k, n.toNatClampNeg, fun _ => match rs_aty k with | some t => defaultValue t | none => .null)) else none
  | _, _ => none
def rs_newo (k : Option (Nat × Nat)) (st : List Value) (w : rs_H) : Option (List Value × rs_H) := match k with
  | some k => some (.ref w.2.1 :: st, rs_new w (k.1, k.2, fun j => defaultValue (rs_ty k.1 j)))
  | none => none
/-- Math.max and min, that the model runs by an entry of its own -/
def rs_mth (k : Option Nat) (st : List Value) : Option (List Value) := match k, st with
  | some 0, .int b :: .int a :: s => if rs_s4 s = true then some (.int (if a < b then b else a) :: s) else none
  | some 1, .long b :: .long a :: s => if rs_s4 s = true then some (.long (if b < a then a else b) :: s) else none
  | some 2, .long b :: .long a :: s => if rs_s4 s = true then some (.long (if b < a then b else a) :: s) else none
  | _, _ => none
def rs_fz (t : FieldType) (v : Int32) : Bool := match t with
  | .int => true
  | .boolean => decide (v = 0 ∨ v = 1)
  | _ => false
def rs_exec (y : MethodName) (q : rs_I) (l : rs_L) (st : List Value) (w : rs_H) : Option rs_O :=
  let nx := q.2.2.1
  let t := q.2.2.2.1
  let cv := q.2.2.2.2.2
  match q.1 with
  | .iconst _ => some (.inl (nx, l, cv :: st, w))
  | .bipush _ => some (.inl (nx, l, cv :: st, w))
  | .sipush _ => some (.inl (nx, l, cv :: st, w))
  | .lconst _ => some (.inl (nx, l, cv :: st, w))
  | .ldc i => if (rs_ic y.cls i).isSome = true then some (.inl (nx, l, cv :: st, w)) else none
  | .ldc_w i => if (rs_ic y.cls i).isSome = true then some (.inl (nx, l, cv :: st, w)) else none
  | .ldc2_w i => if (rs_lc y.cls i).isSome = true then some (.inl (nx, l, cv :: st, w)) else none
  | .iload k => (rs_load (.iload k) l).map fun v => .inl (nx, l, v :: st, w)
  | .iload_n k => (rs_load (.iload_n k) l).map fun v => .inl (nx, l, v :: st, w)
  | .lload k => (rs_load (.lload k) l).map fun v => .inl (nx, l, v :: st, w)
  | .lload_n k => (rs_load (.lload_n k) l).map fun v => .inl (nx, l, v :: st, w)
  | .aload k => (rs_load (.aload k) l).map fun v => .inl (nx, l, v :: st, w)
  | .aload_n k => (rs_load (.aload_n k) l).map fun v => .inl (nx, l, v :: st, w)
  | .istore k => match st with
    | v :: s => (rs_store (.istore k) l v).map fun l' => .inl (nx, l', s, w)
    | [] => none
  | .istore_n k => match st with
    | v :: s => (rs_store (.istore_n k) l v).map fun l' => .inl (nx, l', s, w)
    | [] => none
  | .lstore k => match st with
    | v :: s => (rs_store (.lstore k) l v).map fun l' => .inl (nx, l', s, w)
    | [] => none
  | .lstore_n k => match st with
    | v :: s => (rs_store (.lstore_n k) l v).map fun l' => .inl (nx, l', s, w)
    | [] => none
  | .astore k => match st with
    | v :: s => (rs_store (.astore k) l v).map fun l' => .inl (nx, l', s, w)
    | [] => none
  | .astore_n k => match st with
    | v :: s => (rs_store (.astore_n k) l v).map fun l' => .inl (nx, l', s, w)
    | [] => none
  | .iinc k _ => match rs_ld l k, cv with
    | some (.int a), .int c => (rs_st1 l k (.int (a + c))).map fun l' => .inl (nx, l', st, w)
    | _, _ => none
  | .goto _ => some (.inl (t, l, st, w))
  | .ifCond c _ => match st with
    | .int a :: s => some (.inl (bif rs_cb c a 0 then t else nx, l, s, w))
    | _ => none
  | .if_icmp c _ => match st with
    | .int b :: .int a :: s => some (.inl (bif rs_cb c a b then t else nx, l, s, w))
    | _ => none
  | .ifnull _ => match st with
    | .null :: s => some (.inl (t, l, s, w))
    | .ref _ :: s => some (.inl (nx, l, s, w))
    | _ => none
  | .ifnonnull _ => match st with
    | .null :: s => some (.inl (nx, l, s, w))
    | .ref _ :: s => some (.inl (t, l, s, w))
    | _ => none
  | .tableswitch _ _ _ _ => match st with
    | .int a :: s => some (.inl (rs_sw q.2.2.2.2.1 t a, l, s, w))
    | _ => none
  | .getfield i => (rs_get (rs_fl y.cls i) st w).map fun s => .inl (nx, l, s, w)
  | .putfield i => (rs_put (rs_pfl y i) st w).map fun s => .inl (nx, l, s.1, s.2)
  | .iaload => (rs_ald 12 st w).map fun s => .inl (nx, l, s, w)
  | .laload => (rs_ald 13 st w).map fun s => .inl (nx, l, s, w)
  | .baload => (rs_ald 14 st w).map fun s => .inl (nx, l, s, w)
  | .aaload => (rs_ald 99 st w).map fun s => .inl (nx, l, s, w)
  | .iastore => (rs_ast 12 st w).map fun s => .inl (nx, l, s.1, s.2)
  | .lastore => (rs_ast 13 st w).map fun s => .inl (nx, l, s.1, s.2)
  | .bastore => (rs_ast 14 st w).map fun s => .inl (nx, l, s.1, s.2)
  | .aastore => (rs_ast 99 st w).map fun s => .inl (nx, l, s.1, s.2)
  | .arraylength => (rs_alen st w).map fun s => .inl (nx, l, s, w)
  | .new i => (rs_newo (rs_nw y.cls i) st w).map fun s => .inl (nx, l, s.1, s.2)
  | .newarray a => (rs_newa (rs_nk a) st w).map fun s => .inl (nx, l, s.1, s.2)
  | .anewarray i => (rs_newa (rs_na y.cls i) st w).map fun s => .inl (nx, l, s.1, s.2)
  | .invokestatic i => match rs_lk 0 y.cls i with
    | some f => rs_call (some f) 0 nx st w
    | none => (rs_mth (rs_jm y.cls i) st).map fun s => .inl (nx, l, s, w)
  | .invokevirtual i => rs_call (rs_lk 1 y.cls i) 1 nx st w
  | .invokespecial i => bif rs_oi y.cls i then (match st with
    | .ref _ :: s => if rs_s4 s = true then some (.inl (nx, l, s, w)) else none
    | _ => none) else rs_call (rs_lk 2 y.cls i) 2 nx st w
  | .ireturn => match st, rs_rt y with
    | [.int v], some t => if rs_fz t v = true then some (.inr (.inr (some (.int v)))) else none
    | _, _ => none
  | .lreturn => match st, rs_rt y with
    | [.long v], some .long => some (.inr (.inr (some (.long v))))
    | _, _ => none
  | .areturn => match st, rs_rt y with
    | [v], some (.object _) => if rs_isr v = true then some (.inr (.inr (some v))) else none
    | _, _ => none
  | .return_ => match st, rs_rt y with
    | [], none => some (.inr (.inr none))
    | _, _ => none
  | i => (rs_alu i st).map fun s => .inl (nx, l, s, w)
def rs_step (y : MethodName) (pc : Nat) (l : rs_L) (st : List Value) (w : rs_H) : Option rs_O := match rs_dec y pc with
  | none => none
  | some q => rs_exec y q l st w
def rs_run : Nat → Nat → MethodName → Nat → rs_L → List Value → rs_H → Option (rs_H × Option Value)
  | 0, _, _, _, _, _, _ => none
  | n + 1, d, y, pc, l, st, w => match rs_step y pc l st w with
    | none => none
    | some (.inl z) => rs_run n d y z.1 z.2.1 z.2.2.1 z.2.2.2
    | some (.inr (.inl z)) => match d with
      | 0 => none
      | d' + 1 => match rs_ent z.1 z.2.1 with
        | none => none
        | some l0 => match rs_run n d' z.1 0 l0 [] w with
          | none => none
          | some u => rs_run n (d' + 1) y z.2.2.1 l (rs_push u.2 z.2.2.2) u.1
    | some (.inr (.inr v)) => some (w, v)
