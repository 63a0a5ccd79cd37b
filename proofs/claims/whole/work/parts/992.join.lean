/-! a run doesn't see cells that it isn't shown -/
def ju (h : jx_H) (X : Nat → Option jx_E) : jx_H := (h.1, h.2.1, fun a => match h.2.2 a with | some e => some e | none => X a)
theorem ju_s (h : jx_H) (X : Nat → Option jx_E) (a : Nat) (e : jx_E) : ju (jx_set h a e) X = jx_set (ju h X) a e := by
  unfold ju jx_set
  refine Prod.ext rfl (Prod.ext rfl (funext fun b => ?_))
  show (match (if b = a then some e else h.2.2 b) with | some e => some e | none => X b) = if b = a then some e else (match h.2.2 b with | some e => some e | none => X b)
  by_cases y : b = a
  · rw [if_pos y, if_pos y]
  · rw [if_neg y, if_neg y]
theorem ju_n (h : jx_H) (X : Nat → Option jx_E) (z : Nat) (e : jx_E) : ju (jx_new h z e) X = jx_new (ju h X) z e := by
  unfold ju jx_new
  refine Prod.ext rfl (Prod.ext rfl (funext fun b => ?_))
  show (match (if b = h.1 then some e else h.2.2 b) with | some e => some e | none => X b) = if b = h.1 then some e else (match h.2.2 b with | some e => some e | none => X b)
  by_cases y : b = h.1
  · rw [if_pos y, if_pos y]
  · rw [if_neg y, if_neg y]
theorem ju_at {h : jx_H} {a : Nat} {e : jx_E} (X : Nat → Option jx_E) (q : h.2.2 a = some e) : (ju h X).2.2 a = some e := by
  show (match h.2.2 a with | some e => some e | none => X a) = some e
  rw [q]
def ju_r (r : jx_R) (X : Nat → Option jx_E) : jx_R := match r with
  | .inl (pc, ls, st, h) => .inl (pc, ls, st, ju h X)
  | .inr q => .inr q
set_option maxHeartbeats 8000000 in
theorem jx_act_ju {pc : Nat} {row : jx_Row} {ls st : List Value} {h : jx_H} {r : jx_R} (X : Nat → Option jx_E) (ha : jx_act pc row ls st h = some r) : jx_act pc row ls st (ju h X) = some (ju_r r X) := by
  obtain ⟨i, len, x, y, v⟩ := row
  cases i
  case ifCond c o =>
    simp only [jx_act] at ha ⊢
    split at ha
    · cases c <;> simp only [jx_br, jx_go] at ha ⊢ <;> split at ha <;> rename_i hq <;> cases ha <;> first | (rw [if_pos hq]; rfl) | (rw [if_neg hq]; rfl)
    · cases ha
  case if_icmp c o =>
    simp only [jx_act] at ha ⊢
    split at ha
    · cases c <;> simp only [jx_br, jx_go] at ha ⊢ <;> split at ha <;> rename_i hq <;> cases ha <;> first | (rw [if_pos hq]; rfl) | (rw [if_neg hq]; rfl)
    · cases ha
  all_goals
    first
    | (have ha' : (none : Option jx_R) = some r := ha
       cases ha')
    | (simp only [jx_act, jx_go] at ha ⊢
       (repeat' (split at ha))
       all_goals first
         | (cases ha; done)
         | (cases ha; rfl)
         | (cases ha; simp only [ju_r, ju_s, ju_n]; simp [*]; done)
         | (cases ha; simp only [ju_r, ju_s, ju_n]; simp [ju, *]; done)
         | (cases ha; simp only [ju_r, ju_s, ju_n]; simp [ju, *]; omega)
         | (cases ha; rename_i hq hcc; simp only [ju_r, ju_s, ju_n, ju_at X hq, if_pos hcc]))
theorem jx_run_ju (X : Nat → Option jx_E) : ∀ (n m pc : Nat) (ls st : List Value) (h : jx_H) (v : Option Value) (h' : jx_H), jx_run n m pc ls st h = some (v, h') → jx_run n m pc ls st (ju h X) = some (v, ju h' X) := by
  intro n
  induction n with
  | zero => intro m pc ls st h v h' hr; simp [jx_run] at hr
  | succ n ih =>
    intro m pc ls st h v h' hr
    unfold jx_run at hr
    split at hr
    · cases hr
    · rename_i row hrow
      split at hr
      · cases hr
      · rename_i pc1 ls1 st1 h1 ha
        simp only [jx_run, hrow, jx_act_ju X ha, ju_r]
        exact ih m pc1 ls1 st1 h1 v h' hr
      · rename_i v1 ha
        simp only [jx_run, hrow, jx_act_ju X ha, ju_r]
        cases hr
        rfl
      · rename_i cal vs rest ha
        simp only [jx_run, hrow, jx_act_ju X ha, ju_r]
        split at hr
        · rename_i hl
          rw [if_pos hl]
          split at hr
          · rename_i v1 h1 hcall
            rw [ih _ _ _ _ _ _ _ hcall]
            exact ih _ _ _ _ _ _ _ hr
          · cases hr
        · cases hr
theorem jx_T.ju {m pc : Nat} {ls st : List Value} {h h2 : jx_H} {v : Option Value} (X : Nat → Option jx_E) (t : jx_T m pc ls st h v h2) : jx_T m pc ls st (ju h X) v (ju h2 X) := by
  obtain ⟨n, hn⟩ := t
  exact ⟨n, jx_run_ju X n _ _ _ _ _ _ _ hn⟩
/-- what a step doesn't make -/
abbrev jx_Rdm (h : jx_H) (r : jx_R) : Prop := match r with
  | .inl q => ∀ a, a < h.1 → h.2.2 a = none → q.2.2.2.2.2 a = none
  | .inr _ => True
theorem jx_dm_s {h : jx_H} {b : Nat} {e e2 : jx_E} (q : h.2.2 b = some e) : ∀ a, a < h.1 → h.2.2 a = none → (jx_set h b e2).2.2 a = none := by
  intro a _ hn
  show (if a = b then _ else h.2.2 a) = none
  by_cases y : a = b
  · rw [y, q] at hn
    cases hn
  · rw [if_neg y]
    exact hn
theorem jx_dm_n {h : jx_H} {z : Nat} {e2 : jx_E} : ∀ a, a < h.1 → h.2.2 a = none → (jx_new h z e2).2.2 a = none := by
  intro a ha hn
  show (if a = h.1 then _ else h.2.2 a) = none
  rw [if_neg (by omega)]
  exact hn
set_option maxHeartbeats 8000000 in
theorem jx_act_dm {pc : Nat} {row : jx_Row} {ls st : List Value} {h : jx_H} {r : jx_R} (ha : jx_act pc row ls st h = some r) : jx_Rdm h r := by
  obtain ⟨i, len, x, y, v⟩ := row
  cases i
  case ifCond c o =>
    simp only [jx_act] at ha
    split at ha
    · cases c <;> simp only [jx_br, jx_go] at ha <;> split at ha <;> (cases ha; exact fun _ _ q => q)
    · cases ha
  case if_icmp c o =>
    simp only [jx_act] at ha
    split at ha
    · cases c <;> simp only [jx_br, jx_go] at ha <;> split at ha <;> (cases ha; exact fun _ _ q => q)
    · cases ha
  all_goals
    first
    | (have ha' : (none : Option jx_R) = some r := ha
       cases ha')
    | (simp only [jx_act, jx_go] at ha
       (repeat' (split at ha))
       all_goals first
         | (cases ha; done)
         | (cases ha; exact fun _ _ q => q)
         | (cases ha; exact trivial)
         | (cases ha; exact jx_dm_n)
         | (cases ha; exact jx_dm_s ‹_›))
theorem jx_run_dm : ∀ (n m pc : Nat) (ls st : List Value) (h : jx_H) (v : Option Value) (h' : jx_H), jx_run n m pc ls st h = some (v, h') → ∀ a, a < h.1 → h.2.2 a = none → h'.2.2 a = none := by
  intro n
  induction n with
  | zero => intro m pc ls st h v h' hr; simp [jx_run] at hr
  | succ n ih =>
    intro m pc ls st h v h' hr
    unfold jx_run at hr
    split at hr
    · cases hr
    · rename_i row hrow
      split at hr
      · cases hr
      · rename_i pc1 ls1 st1 h1 ha
        have g1 := jx_act_dm ha
        have g0 := (jx_act_res ha).1
        have g2 := ih m pc1 ls1 st1 h1 v h' hr
        exact fun a q1 q2 => g2 a (Nat.lt_of_lt_of_le q1 g0) (g1 a q1 q2)
      · cases hr
        exact fun _ _ q => q
      · rename_i cal vs rest ha
        split at hr
        · split at hr
          · rename_i v1 h1 hcall
            have g1 := ih _ _ _ _ _ _ _ hcall
            have g0 := (jx_run_mono _ _ _ _ _ _ _ _ hcall).1
            have g2 := ih _ _ _ _ _ _ _ hr
            exact fun a q1 q2 => g2 a (Nat.lt_of_lt_of_le q1 g0) (g1 a q1 q2)
          · cases hr
        · cases hr
theorem jx_T.dm {m pc : Nat} {ls st : List Value} {h h2 : jx_H} {v : Option Value} (t : jx_T m pc ls st h v h2) : ∀ a, a < h.1 → h.2.2 a = none → h2.2.2 a = none := by
  obtain ⟨n, hn⟩ := t
  exact jx_run_dm n _ _ _ _ _ _ _ hn
