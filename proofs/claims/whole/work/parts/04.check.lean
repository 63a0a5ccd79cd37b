/-! THE CHECK of the resolved rows against the machine's code and the tables' words -/
def jx_lenOk (i : Instr) (len : Nat) : Bool := match i with
  | .iconst _ | .lconst _ | .aconst_null | .iload_n _ | .lload_n _ | .aload_n _ | .istore_n _ | .lstore_n _ | .astore_n _ => Nat.beq len 1
  | .bipush _ | .ldc _ | .iload _ | .lload _ | .aload _ | .istore _ | .lstore _ | .astore _ | .newarray _ => Nat.beq len 2
  | .sipush _ | .ldc_w _ | .ldc2_w _ | .iinc _ _ | .goto _ | .ifCond _ _ | .if_icmp _ _ | .ifnull _ | .ifnonnull _ | .getfield _ | .putfield _ | .anewarray _ | .new _ | .checkcast _ | .invokespecial _ | .invokestatic _ | .invokevirtual _ => Nat.beq len 3
  | .tableswitch _ _ _ _ => true
  | _ => Nat.beq len 1
/-- room of a caller for a callee -/
def jx_roomOk (m cal : Nat) : Bool := Nat.ble ((jx_mi cal).2.2.2.2.2.1 + 1) (jx_mi m).2.2.2.2.2.1 && Nat.ble (8 + ((jx_mi cal).2.2.1 + 11) + (jx_mi cal).2.2.2.2.2.2) (jx_mi m).2.2.2.2.2.2
def jx_callOk (m cal : Nat) (n : Int32) : Bool := Nat.ble cal 214 && jx_roomOk m cal && decide ((parseMethodDescriptor (jx_mi cal).1.desc).map (fun d => d.parameters.length) = some n.toNatClampNeg)
def jx_rowOk (m pc : Nat) (r : jx_Row) : Bool :=
  match r with
  | (i, len, x, y, v) =>
  match i with
  | .iconst n => decide (v = .int (Int32.ofInt n))
  | .bipush n => decide (v = .int (Int8.ofInt n).toInt32)
  | .sipush n => decide (v = .int (Int16.ofInt n).toInt32)
  | .lconst n => decide (v = .long (Int64.ofNat n.val))
  | .ldc k => jx_pC.any fun q => Nat.beq q.1 (jx_mi m).2.2.2.2.1 && Nat.beq q.2.1 k && decide (q.2.2.1 = v)
  | .ldc_w k => jx_pC.any fun q => Nat.beq q.1 (jx_mi m).2.2.2.2.1 && Nat.beq q.2.1 k && decide (q.2.2.1 = v)
  | .ldc2_w k => jx_pC.any fun q => Nat.beq q.1 (jx_mi m).2.2.2.2.1 && Nat.beq q.2.1 k && decide (q.2.2.1 = v)
  | .iload k | .lload k | .aload k | .istore k | .lstore k | .astore k => Nat.beq k x
  | .iload_n k | .lload_n k | .aload_n k | .istore_n k | .lstore_n k | .astore_n k => Nat.beq k.val x
  | .iinc k n => Nat.beq k x && decide (v = .int (Int32.ofInt n))
  | .goto o | .ifCond _ o | .if_icmp _ o | .ifnull o | .ifnonnull o => decide ((pc : Int) + o = (x : Int))
  | .getfield k => jx_pF.any fun q => Nat.beq q.1 (jx_mi m).2.2.2.2.1 && Nat.beq q.2.1 k && Nat.beq q.2.2.1 x && Nat.beq q.2.2.2.1 y
  | .putfield k => (jx_pF.any fun q => Nat.beq q.1 (jx_mi m).2.2.2.2.1 && Nat.beq q.2.1 k && Nat.beq q.2.2.1 x && Nat.beq q.2.2.2.1 y) &&
      (match jx_cl[x]? with | some c => !(c.2.1 y).2.2.2 || (decide ((jx_mi m).1.name = "<init>") && decide ((c.2.1 y).1 = (jx_mi m).1.cls)) | none => false)
  | .newarray t => (match t with | .int => Nat.beq x 0 | .long => Nat.beq x 1 | .byte => Nat.beq x 2 | .boolean => Nat.beq x 3 | _ => false)
  | .anewarray k => jx_pA.any fun q => Nat.beq q.1 (jx_mi m).2.2.2.2.1 && Nat.beq q.2.1 k && Nat.beq q.2.2.1 x
  | .new k => jx_pN.any fun q => Nat.beq q.1 (jx_mi m).2.2.2.2.1 && Nat.beq q.2.1 k && Nat.beq q.2.2.1 x
  | .checkcast k => jx_pK.any fun q => Nat.beq q.1 (jx_mi m).2.2.2.2.1 && Nat.beq q.2.1 k && Nat.beq q.2.2.1 x
  | .ireturn => decide ((jx_mi m).2.2.2.1 = some .int) || (Nat.beq x 1 && decide ((jx_mi m).2.2.2.1 = some .boolean))
  | .lreturn => decide ((jx_mi m).2.2.2.1 = some .long)
  | .areturn => (match (jx_mi m).2.2.2.1 with | some (.object _) => true | some (.array _) => true | _ => false)
  | .return_ => decide ((jx_mi m).2.2.2.1 = none)
  | .invokespecial k => (jx_pM.any fun q => Nat.beq q.1 (jx_mi m).2.2.2.2.1 && Nat.beq q.2.1 k && Nat.beq q.2.2.1 x && Nat.beq q.2.2.2.1 y) &&
      (match v with | .int n => (if x = 4 then Nat.ble 1 (jx_mi m).2.2.2.2.2.1 && Nat.ble 20 (jx_mi m).2.2.2.2.2.2 else (Nat.beq x 1 || Nat.beq x 3) && jx_callOk m y n) | _ => false)
  | .invokestatic k => (jx_pM.any fun q => Nat.beq q.1 (jx_mi m).2.2.2.2.1 && Nat.beq q.2.1 k && Nat.beq q.2.2.1 x && Nat.beq q.2.2.2.1 y) &&
      (match v with | .int n => (if x = 6 then Nat.ble 1 (jx_mi m).2.2.2.2.2.1 && Nat.ble 32 (jx_mi m).2.2.2.2.2.2 else (Nat.beq x 2 || Nat.beq x 7) && jx_callOk m y n) | _ => false)
  | .invokevirtual k => (jx_pM.any fun q => Nat.beq q.1 (jx_mi m).2.2.2.2.1 && Nat.beq q.2.1 k && Nat.beq q.2.2.1 x && Nat.beq q.2.2.2.1 y) &&
      (match v with | .int n => (if x = 5 then Nat.ble 1 (jx_mi m).2.2.2.2.2.1 && Nat.ble 22 (jx_mi m).2.2.2.2.2.2 else Nat.beq x 0 && jx_callOk m y n) | _ => false)
  | _ => true
def jx_ok (m pc : Nat) (r : jx_Row) : Bool := decide (decode (jx_mi m).2.1 pc = .ok (r.1, r.2.1)) && jx_lenOk r.1 r.2.1 && jx_rowOk m pc r
def jx_all (m : Nat) (f : Nat → Option jx_Row) (lo n : Nat) : Bool := (List.range n).all fun i => match f (lo + i) with | none => true | some r => jx_ok m (lo + i) r
theorem jx_all_spec {m lo n : Nat} {f : Nat → Option jx_Row} (h : jx_all m f lo n = true) (pc : Nat) (r : jx_Row) (h1 : lo ≤ pc) (h2 : pc < lo + n) (hr : f pc = some r) : jx_ok m pc r = true := by
  have h3 := List.all_eq_true.mp h (pc - lo) (List.mem_range.mpr (by omega))
  rw [show lo + (pc - lo) = pc by omega, hr] at h3
  exact h3
theorem jx_top {f : Nat → Option jx_Row} {top pc : Nat} {r : jx_Row} (ht : ∀ pc, Nat.ble pc top = false → f pc = none) (hr : f pc = some r) : pc < top + 1 := by
  rcases hb : Nat.ble pc top with _ | _
  · rw [ht pc hb] at hr; cases hr
  · have := Nat.le_of_ble_eq_true hb
    omega
def jx_good : Nat → List (Nat → Option jx_Row) → Prop
  | _, [] => True
  | k, f :: fs => (∀ pc r, f pc = some r → jx_ok k pc r = true) ∧ jx_good (k + 1) fs
theorem jx_good_at : ∀ (fs : List (Nat → Option jx_Row)) (k i : Nat) (f : Nat → Option jx_Row), jx_good k fs → fs[i]? = some f → ∀ pc r, f pc = some r → jx_ok (k + i) pc r = true
  | [], _, i, f, _, h => by simp at h
  | g :: gs, k, 0, f, hg, h => by
    simp at h; subst h
    intro pc r hr
    have := hg.1 pc r hr
    simpa using this
  | g :: gs, k, i + 1, f, hg, h => by
    intro pc r hr
    have := jx_good_at gs (k + 1) i f hg.2 (by simpa using h) pc r hr
    rwa [show k + 1 + i = k + (i + 1) by omega] at this
