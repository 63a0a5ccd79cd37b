/-! THE INTERPRETER: a small machine of our own over the resolved code; its heap has addresses of its own (0: the script; from 1 on: what the law makes) -/
/-- a cell: an array (number of its type, length, contents) or an object (number of its class, fields); type 98: the script -/
abbrev jx_E : Type := (Nat × vp_A) ⊕ (Nat × List Value)
/-- the next address, the slots made so far, the cells -/
abbrev jx_H : Type := Nat × Nat × (Nat → Option jx_E)
def jx_up (f : Nat → Option jx_E) (a : Nat) (e : jx_E) : Nat → Option jx_E := fun q => if q = a then some e else f q
def jx_set (h : jx_H) (a : Nat) (e : jx_E) : jx_H := (h.1, h.2.1, jx_up h.2.2 a e)
def jx_new (h : jx_H) (z : Nat) (e : jx_E) : jx_H := (h.1 + 1, h.2.1 + z, jx_up h.2.2 h.1 e)
/-- locals: a long that is cut by a store one place on is gone -/
def jx_kill (ls : List Value) (k : Nat) : List Value := match k with
  | 0 => ls
  | j + 1 => match ls[j]? with
    | some (.long _) => ls.set j (.retAddr 0)
    | some (.double _) => ls.set j (.retAddr 0)
    | _ => ls
def jx_st1 (ls : List Value) (k : Nat) (v : Value) : List Value := (jx_kill ls k).set k v
def jx_st2 (ls : List Value) (k : Nat) (v : Value) : List Value := ((jx_kill ls k).set k v).set (k + 1) (.retAddr 0)
def jx_br {α : Type} (c : ClassFile.Cond) (x y : Int32) (a b : α) : α := match c with
  | .eq => if x = y then a else b
  | .ne => if x = y then b else a
  | .lt => if x < y then a else b
  | .ge => if y ≤ x then a else b
  | .gt => if y < x then a else b
  | .le => if x ≤ y then a else b
/-- what a step gives: the next place, an answer, a call (callee, arguments, the stack below) -/
abbrev jx_R : Type := (Nat × List Value × List Value × jx_H) ⊕ (Option Value ⊕ (Nat × List Value × List Value))
def jx_go (pc : Nat) (ls st : List Value) (h : jx_H) : Option jx_R := some (.inl (pc, ls, st, h))
def jx_in (i : Int32) (n : Nat) : Prop := ¬ (i < 0) ∧ i.toNatClampNeg < n
/-- may a field of this type take this value -/
def jx_fit (ty : FieldType) (v : Value) : Bool := match ty, v with
  | .int, .int _ => true
  | .long, .long _ => true
  | .boolean, .int x => x == 0 || x == 1
  | .object _, .ref _ => true
  | .object _, .null => true
  | .array _, .ref _ => true
  | .array _, .null => true
  | _, _ => false
def jx_cat (st : List Value) : Nat := (st.map fun v => v.category).sum
/-- the row of a stack-only or local instruction, an array's, a field's: the next place -/
def jx_act (pc : Nat) (r : jx_Row) (ls st : List Value) (h : jx_H) : Option jx_R :=
  match r with
  | (i, len, x, y, v) =>
  match i with
  | .iconst _ => jx_go (pc + 1) ls (v :: st) h
  | .bipush _ => jx_go (pc + 2) ls (v :: st) h
  | .sipush _ => jx_go (pc + 3) ls (v :: st) h
  | .lconst _ => jx_go (pc + 1) ls (v :: st) h
  | .ldc _ => match v with | .int u => jx_go (pc + 2) ls (.int u :: st) h | _ => none
  | .ldc_w _ => match v with | .int u => jx_go (pc + 3) ls (.int u :: st) h | _ => none
  | .ldc2_w _ => match v with | .long u => jx_go (pc + 3) ls (.long u :: st) h | _ => none
  | .aconst_null => jx_go (pc + 1) ls (.null :: st) h
  | .iload _ => match ls[x]? with | some (.int a) => jx_go (pc + 2) ls (.int a :: st) h | _ => none
  | .iload_n _ => match ls[x]? with | some (.int a) => jx_go (pc + 1) ls (.int a :: st) h | _ => none
  | .lload _ => match ls[x]? with | some (.long a) => jx_go (pc + 2) ls (.long a :: st) h | _ => none
  | .lload_n _ => match ls[x]? with | some (.long a) => jx_go (pc + 1) ls (.long a :: st) h | _ => none
  | .aload _ => match ls[x]? with | some (.ref a) => jx_go (pc + 2) ls (.ref a :: st) h | some .null => jx_go (pc + 2) ls (.null :: st) h | _ => none
  | .aload_n _ => match ls[x]? with | some (.ref a) => jx_go (pc + 1) ls (.ref a :: st) h | some .null => jx_go (pc + 1) ls (.null :: st) h | _ => none
  | .istore _ => match st with | .int a :: st => if x < ls.length then jx_go (pc + 2) (jx_st1 ls x (.int a)) st h else none | _ => none
  | .istore_n _ => match st with | .int a :: st => if x < ls.length then jx_go (pc + 1) (jx_st1 ls x (.int a)) st h else none | _ => none
  | .lstore _ => match st with | .long a :: st => if x + 1 < ls.length then jx_go (pc + 2) (jx_st2 ls x (.long a)) st h else none | _ => none
  | .lstore_n _ => match st with | .long a :: st => if x + 1 < ls.length then jx_go (pc + 1) (jx_st2 ls x (.long a)) st h else none | _ => none
  | .astore _ => match st with | .ref a :: st => if x < ls.length then jx_go (pc + 2) (jx_st1 ls x (.ref a)) st h else none | .null :: st => if x < ls.length then jx_go (pc + 2) (jx_st1 ls x .null) st h else none | _ => none
  | .astore_n _ => match st with | .ref a :: st => if x < ls.length then jx_go (pc + 1) (jx_st1 ls x (.ref a)) st h else none | .null :: st => if x < ls.length then jx_go (pc + 1) (jx_st1 ls x .null) st h else none | _ => none
  | .iinc _ _ => match ls[x]?, v with | some (.int a), .int b => if x < ls.length then jx_go (pc + 3) (jx_st1 ls x (.int (a + b))) st h else none | _, _ => none
  | .iadd => match st with | .int b :: .int a :: st => jx_go (pc + 1) ls (.int (a + b) :: st) h | _ => none
  | .isub => match st with | .int b :: .int a :: st => jx_go (pc + 1) ls (.int (a - b) :: st) h | _ => none
  | .imul => match st with | .int b :: .int a :: st => jx_go (pc + 1) ls (.int (a * b) :: st) h | _ => none
  | .iand => match st with | .int b :: .int a :: st => jx_go (pc + 1) ls (.int (a &&& b) :: st) h | _ => none
  | .ior => match st with | .int b :: .int a :: st => jx_go (pc + 1) ls (.int (a ||| b) :: st) h | _ => none
  | .ixor => match st with | .int b :: .int a :: st => jx_go (pc + 1) ls (.int (a ^^^ b) :: st) h | _ => none
  | .idiv => match st with | .int b :: .int a :: st => if b = 0 then none else jx_go (pc + 1) ls (.int (a / b) :: st) h | _ => none
  | .irem => match st with | .int b :: .int a :: st => if b = 0 then none else jx_go (pc + 1) ls (.int (a - a / b * b) :: st) h | _ => none
  | .ineg => match st with | .int a :: st => jx_go (pc + 1) ls (.int (-a) :: st) h | _ => none
  | .ishl => match st with | .int b :: .int a :: st => jx_go (pc + 1) ls (.int (a <<< (b &&& 31)) :: st) h | _ => none
  | .ishr => match st with | .int b :: .int a :: st => jx_go (pc + 1) ls (.int (a >>> (b &&& 31)) :: st) h | _ => none
  | .iushr => match st with | .int b :: .int a :: st => jx_go (pc + 1) ls (.int (a.toUInt32 >>> (b.toUInt32 &&& Int32.toUInt32 31)).toInt32 :: st) h | _ => none
  | .ladd => match st with | .long b :: .long a :: st => jx_go (pc + 1) ls (.long (a + b) :: st) h | _ => none
  | .lsub => match st with | .long b :: .long a :: st => jx_go (pc + 1) ls (.long (a - b) :: st) h | _ => none
  | .lmul => match st with | .long b :: .long a :: st => jx_go (pc + 1) ls (.long (a * b) :: st) h | _ => none
  | .lxor => match st with | .long b :: .long a :: st => jx_go (pc + 1) ls (.long (a ^^^ b) :: st) h | _ => none
  | .ldiv => match st with | .long b :: .long a :: st => if b = 0 then none else jx_go (pc + 1) ls (.long (a / b) :: st) h | _ => none
  | .lneg => match st with | .long a :: st => jx_go (pc + 1) ls (.long (-a) :: st) h | _ => none
  | .lcmp => match st with | .long b :: .long a :: st => jx_go (pc + 1) ls (.int (lg_cmp a b) :: st) h | _ => none
  | .i2l => match st with | .int a :: st => jx_go (pc + 1) ls (.long a.toInt64 :: st) h | _ => none
  | .l2i => match st with | .long a :: st => jx_go (pc + 1) ls (.int a.toInt32 :: st) h | _ => none
  | .i2b => match st with | .int a :: st => jx_go (pc + 1) ls (.int a.toInt8.toInt32 :: st) h | _ => none
  | .i2s => match st with | .int a :: st => jx_go (pc + 1) ls (.int a.toInt16.toInt32 :: st) h | _ => none
  | .dup => match st with | a :: st => if a.category = 1 then jx_go (pc + 1) ls (a :: a :: st) h else none | _ => none
  | .pop => match st with | a :: st => if a.category = 1 then jx_go (pc + 1) ls st h else none | _ => none
  | .dup2 => match st with | a :: b :: st => if a.category = 1 ∧ b.category = 1 then jx_go (pc + 1) ls (a :: b :: a :: b :: st) h else none | _ => none
  | .goto _ => jx_go x ls st h
  | .ifCond c _ => match st with | .int a :: st => jx_br c a 0 (jx_go x ls st h) (jx_go (pc + 3) ls st h) | _ => none
  | .if_icmp c _ => match st with | .int b :: .int a :: st => jx_br c a b (jx_go x ls st h) (jx_go (pc + 3) ls st h) | _ => none
  | .ifnull _ => match st with | .ref _ :: st => jx_go (pc + 3) ls st h | .null :: st => jx_go x ls st h | _ => none
  | .ifnonnull _ => match st with | .ref _ :: st => jx_go x ls st h | .null :: st => jx_go (pc + 3) ls st h | _ => none
  | .tableswitch d lo hi offs => match st with
    | .int a :: st => if a.toInt < lo ∨ hi < a.toInt then (if 0 ≤ (pc : Int) + d then jx_go ((pc : Int) + d).toNat ls st h else none) else match offs[(a.toInt - lo).toNat]? with
      | some o => if 0 ≤ (pc : Int) + o then jx_go ((pc : Int) + o).toNat ls st h else none
      | none => none
    | _ => none
  | .getfield _ => match st with
    | .ref a :: st => match h.2.2 a with
      | some (.inr (c, fs)) => if c = x then (match fs[y]? with | some w => jx_go (pc + 3) ls (w :: st) h | none => none) else none
      | _ => none
    | _ => none
  | .putfield _ => match st with
    | w :: .ref a :: st => match h.2.2 a with
      | some (.inr (c, fs)) => if c = x ∧ y < fs.length ∧ jx_fit ((jx_fty.getD x []).getD y .int) w = true then jx_go (pc + 3) ls st (jx_set h a (.inr (c, fs.set y w))) else none
      | _ => none
    | _ => none
  | .iaload => match st with
    | .int k :: .ref a :: st => match h.2.2 a with
      | some (.inl (t, n, .inl f)) => if (t = 0 ∨ t = 98) ∧ (¬ (k < 0) ∧ k.toNatClampNeg < n) then jx_go (pc + 1) ls (.int (f k.toNatClampNeg) :: st) h else none
      | _ => none
    | _ => none
  | .baload => match st with
    | .int k :: .ref a :: st => match h.2.2 a with
      | some (.inl (t, n, .inl f)) => if (t = 2 ∨ t = 3) ∧ (¬ (k < 0) ∧ k.toNatClampNeg < n) then jx_go (pc + 1) ls (.int (f k.toNatClampNeg) :: st) h else none
      | _ => none
    | _ => none
  | .laload => match st with
    | .int k :: .ref a :: st => match h.2.2 a with
      | some (.inl (t, n, .inr (.inl f))) => if t = 1 ∧ (¬ (k < 0) ∧ k.toNatClampNeg < n) then jx_go (pc + 1) ls (.long (f k.toNatClampNeg) :: st) h else none
      | _ => none
    | _ => none
  | .aaload => match st with
    | .int k :: .ref a :: st => match h.2.2 a with
      | some (.inl (t, n, .inr (.inr (.inr (.inr f))))) => if (4 ≤ t ∧ t < 8) ∧ (¬ (k < 0) ∧ k.toNatClampNeg < n) then jx_go (pc + 1) ls (va_rf (f k.toNatClampNeg) :: st) h else none
      | _ => none
    | _ => none
  | .iastore => match st with
    | .int w :: .int k :: .ref a :: st => match h.2.2 a with
      | some (.inl (t, n, .inl f)) => if t = 0 ∧ (¬ (k < 0) ∧ k.toNatClampNeg < n) then jx_go (pc + 1) ls st (jx_set h a (.inl (t, n, .inl (upd f k.toNatClampNeg w)))) else none
      | _ => none
    | _ => none
  | .bastore => match st with
    | .int w :: .int k :: .ref a :: st => match h.2.2 a with
      | some (.inl (t, n, .inl f)) => if t = 2 ∧ (¬ (k < 0) ∧ k.toNatClampNeg < n) then jx_go (pc + 1) ls st (jx_set h a (.inl (t, n, .inl (upd f k.toNatClampNeg (vp_nar .byte w)))))
        else if t = 3 ∧ (¬ (k < 0) ∧ k.toNatClampNeg < n) then jx_go (pc + 1) ls st (jx_set h a (.inl (t, n, .inl (upd f k.toNatClampNeg (vp_nar .boolean w))))) else none
      | _ => none
    | _ => none
  | .lastore => match st with
    | .long w :: .int k :: .ref a :: st => match h.2.2 a with
      | some (.inl (t, n, .inr (.inl f))) => if t = 1 ∧ (¬ (k < 0) ∧ k.toNatClampNeg < n) then jx_go (pc + 1) ls st (jx_set h a (.inl (t, n, .inr (.inl (vp_updL f k.toNatClampNeg w))))) else none
      | _ => none
    | _ => none
  | .aastore => match st with
    | .ref b :: .int k :: .ref a :: st => match h.2.2 a, h.2.2 b with
      | some (.inl (t, n, .inr (.inr (.inr (.inr f))))), some (.inr (c, _)) => if ((4 ≤ t ∧ t < 8) ∧ c = jx_acl.getD t 99) ∧ (¬ (k < 0) ∧ k.toNatClampNeg < n) then jx_go (pc + 1) ls st (jx_set h a (.inl (t, n, .inr (.inr (.inr (.inr (va_up f k.toNatClampNeg (some b)))))))) else none
      | _, _ => none
    | .null :: .int k :: .ref a :: st => match h.2.2 a with
      | some (.inl (t, n, .inr (.inr (.inr (.inr f))))) => if (4 ≤ t ∧ t < 8) ∧ (¬ (k < 0) ∧ k.toNatClampNeg < n) then jx_go (pc + 1) ls st (jx_set h a (.inl (t, n, .inr (.inr (.inr (.inr (va_up f k.toNatClampNeg none))))))) else none
      | _ => none
    | _ => none
  | .arraylength => match st with
    | .ref a :: st => match h.2.2 a with
      | some (.inl (t, n, _)) => if t < 8 ∨ t = 98 then jx_go (pc + 1) ls (.int (Int32.ofNat n) :: st) h else none
      | _ => none
    | _ => none
  | .newarray _ => match st with
    | .int k :: st => if ¬ (k < 0) ∧ k.toNatClampNeg ≤ 1000000 then
        (match x with
         | 1 => jx_go (pc + 2) ls (.ref h.1 :: st) (jx_new h k.toNatClampNeg (.inl (1, k.toNatClampNeg, .inr (.inl fun _ => 0))))
         | _ => jx_go (pc + 2) ls (.ref h.1 :: st) (jx_new h k.toNatClampNeg (.inl (x, k.toNatClampNeg, .inl fun _ => 0)))) else none
    | _ => none
  | .anewarray _ => match st with
    | .int k :: st => if ¬ (k < 0) ∧ k.toNatClampNeg ≤ 1000000 then jx_go (pc + 3) ls (.ref h.1 :: st) (jx_new h k.toNatClampNeg (.inl (x, k.toNatClampNeg, .inr (.inr (.inr (.inr fun _ => none)))))) else none
    | _ => none
  | .new _ => jx_go (pc + 3) ls (.ref h.1 :: st) (jx_new h (jx_dfl.getD x []).length (.inr (x, jx_dfl.getD x [])))
  | .checkcast _ => match st with
    | .ref a :: st => match h.2.2 a with
      | some (.inl (t, _)) => if t = x ∧ t < 8 then jx_go (pc + 3) ls (.ref a :: st) h else none
      | _ => none
    | _ => none
  | .ireturn => match st with
    | [.int a] => if x = 0 ∨ a = 0 ∨ a = 1 then some (.inr (.inl (some (.int a)))) else none
    | _ => none
  | .lreturn => match st with
    | [.long a] => some (.inr (.inl (some (.long a))))
    | _ => none
  | .areturn => match st with
    | [.ref a] => some (.inr (.inl (some (.ref a))))
    | [.null] => some (.inr (.inl (some .null)))
    | _ => none
  | .return_ => match st with
    | [] => some (.inr (.inl none))
    | _ => none
  | .invokespecial _ => match v with
    | .int n => if x = 4 then (match st with
        | .ref _ :: rest => if jx_cat rest ≤ 8 then jx_go (pc + 3) ls rest h else none
        | _ => none)
      else match st.drop n.toNatClampNeg with
        | .ref b :: rest => if jx_cat rest ≤ 8 then some (.inr (.inr (y, .ref b :: (st.take n.toNatClampNeg).reverse, rest))) else none
        | _ => none
    | _ => none
  | .invokestatic _ => match v with
    | .int n => if x = 6 then (match st with
        | .int k :: .int dp :: .ref d :: .int sp :: .ref a :: rest => match h.2.2 a, h.2.2 d with
          | some (.inl (ta, na, .inl f)), some (.inl (td, nd, .inl g)) => if (jx_cat rest ≤ 8 ∧ ta = 0 ∧ td = 0) ∧ (¬ (sp < 0) ∧ ¬ (dp < 0) ∧ ¬ (k < 0)) ∧ sp.toNatClampNeg + k.toNatClampNeg ≤ na ∧ dp.toNatClampNeg + k.toNatClampNeg ≤ nd then
              jx_go (pc + 3) ls rest (jx_set h d (.inl (0, nd, .inl (va_cpy f g sp.toNatClampNeg dp.toNatClampNeg k.toNatClampNeg)))) else none
          | _, _ => none
        | _ => none)
      else if jx_cat (st.drop n.toNatClampNeg) ≤ 8 ∧ n.toNatClampNeg ≤ st.length then some (.inr (.inr (y, (st.take n.toNatClampNeg).reverse, st.drop n.toNatClampNeg))) else none
    | _ => none
  | .invokevirtual _ => match v with
    | .int n => if x = 5 then (match st with
        | .ref a :: rest => match h.2.2 a with
          | some (.inl (t, k, .inl f)) => if (jx_cat rest ≤ 8 ∧ t = y) ∧ t = 0 then jx_go (pc + 3) ls (.ref h.1 :: rest) (jx_new h k (.inl (t, k, .inl f))) else none
          | some (.inl (t, k, .inr (.inr (.inr (.inr f))))) => if (jx_cat rest ≤ 8 ∧ t = y) ∧ (4 ≤ t ∧ t < 8) then jx_go (pc + 3) ls (.ref h.1 :: rest) (jx_new h k (.inl (t, k, .inr (.inr (.inr (.inr f)))))) else none
          | _ => none
        | _ => none)
      else match st.drop n.toNatClampNeg with
        | .ref b :: rest => match h.2.2 b with
          | some (.inr (c, _)) => if (jx_cat rest ≤ 8 ∨ (y = 68 ∧ jx_cat rest ≤ 9)) ∧ c = (jx_mi y).2.2.2.2.1 then some (.inr (.inr (y, .ref b :: (st.take n.toNatClampNeg).reverse, rest))) else none
          | _ => none
        | _ => none
    | _ => none
  | _ => none
/-- the locals with which a method begins: a long takes two places -/
def jx_args : List Value → List Value
  | [] => []
  | .long a :: vs => .long a :: .retAddr 0 :: jx_args vs
  | .double a :: vs => .double a :: .retAddr 0 :: jx_args vs
  | v :: vs => v :: jx_args vs
def jx_ent (m : Nat) (vs : List Value) : List Value := jx_args vs ++ List.replicate ((jx_mi m).2.2.1 - (jx_args vs).length) (.retAddr 0)
/-- a method's run from a place on: its answer and the heap behind it -/
def jx_run : Nat → Nat → Nat → List Value → List Value → jx_H → Option (Option Value × jx_H)
  | 0, _, _, _, _, _ => none
  | n + 1, m, pc, ls, st, h => match jx_rc m pc with
    | none => none
    | some r => match jx_act pc r ls st h with
      | none => none
      | some (.inl (pc', ls', st', h')) => jx_run n m pc' ls' st' h'
      | some (.inr (.inl v)) => some (v, h)
      | some (.inr (.inr (cal, vs, rest))) => if (jx_args vs).length ≤ (jx_mi cal).2.2.1 then (match jx_run n cal 0 (jx_ent cal vs) [] h with
        | some (v, h') => jx_run n m (pc + 3) ls (v.toList ++ rest) h'
        | none => none) else none
