/-- what a step may be: the heap grows only; answers and calls come of their instructions alone -/
def jx_isInv (i : Instr) : Bool := match i with
  | .invokevirtual _ => true
  | .invokespecial _ => true
  | .invokestatic _ => true
  | _ => false
def jx_isRet (i : Instr) : Bool := match i with
  | .ireturn => true
  | .lreturn => true
  | .areturn => true
  | .return_ => true
  | _ => false
abbrev jx_Rok (i : Instr) (h : jx_H) (r : jx_R) : Prop := match r with
  | .inl q => h.1 ≤ q.2.2.2.1 ∧ h.2.1 ≤ q.2.2.2.2.1
  | .inr (.inl _) => jx_isRet i = true
  | .inr (.inr _) => jx_isInv i = true
set_option maxHeartbeats 8000000 in
theorem jx_act_res {pc : Nat} {row : jx_Row} {ls st : List Value} {h : jx_H} {r : jx_R} (ha : jx_act pc row ls st h = some r) : jx_Rok row.1 h r := by
  obtain ⟨i, len, x, y, v⟩ := row
  cases i
  case ifCond c o =>
    simp only [jx_act] at ha
    split at ha
    · cases c <;> simp only [jx_br, jx_go] at ha <;> split at ha <;> (cases ha; exact ⟨Nat.le_refl _, Nat.le_refl _⟩)
    · cases ha
  case if_icmp c o =>
    simp only [jx_act] at ha
    split at ha
    · cases c <;> simp only [jx_br, jx_go] at ha <;> split at ha <;> (cases ha; exact ⟨Nat.le_refl _, Nat.le_refl _⟩)
    · cases ha
  all_goals
    first
    | (have ha' : (none : Option jx_R) = some r := ha
       cases ha')
    | (simp only [jx_act, jx_go] at ha
       (repeat' (split at ha))
       all_goals first
         | (cases ha; done)
         | (cases ha; exact ⟨Nat.le_refl _, Nat.le_refl _⟩)
         | (cases ha; exact ⟨Nat.le_succ _, Nat.le_add_right _ _⟩)
         | (cases ha; rfl))
