/-! what the check says of single instructions -/
theorem jx_ro_put {m pc len n x y : Nat} {v : Value} (hro : jx_rowOk m pc (.putfield n, len, x, y, v) = true) : (jx_pF.any fun q => Nat.beq q.1 (jx_mi m).2.2.2.2.1 && Nat.beq q.2.1 n && Nat.beq q.2.2.1 x && Nat.beq q.2.2.2.1 y) = true ∧ (match jx_cl[x]? with | some c => !(c.2.1 y).2.2.2 || (decide ((jx_mi m).1.name = "<init>") && decide ((c.2.1 y).1 = (jx_mi m).1.cls)) | none => false) = true := (Bool.and_eq_true_iff).mp hro
theorem jx_ro_new {m pc len x y : Nat} {v : Value} {t : ArrayType} (hro : jx_rowOk m pc (.newarray t, len, x, y, v) = true) : x < 4 ∧ newarray.typeOf t = jx_aty.getD x .int := by
  simp only [jx_rowOk] at hro
  cases t
  case int => obtain rfl := Nat.eq_of_beq_eq_true hro; exact ⟨by decide, rfl⟩
  case long => obtain rfl := Nat.eq_of_beq_eq_true hro; exact ⟨by decide, rfl⟩
  case byte => obtain rfl := Nat.eq_of_beq_eq_true hro; exact ⟨by decide, rfl⟩
  case boolean => obtain rfl := Nat.eq_of_beq_eq_true hro; exact ⟨by decide, rfl⟩
  all_goals cases hro
theorem jx_ro_sp {m pc len n x y : Nat} {v : Value} (hro : jx_rowOk m pc (.invokespecial n, len, x, y, v) = true) : (jx_pM.any fun q => Nat.beq q.1 (jx_mi m).2.2.2.2.1 && Nat.beq q.2.1 n && Nat.beq q.2.2.1 x && Nat.beq q.2.2.2.1 y) = true ∧ ∃ k, v = .int k ∧ (x = 4 → 1 ≤ (jx_mi m).2.2.2.2.2.1 ∧ 20 ≤ (jx_mi m).2.2.2.2.2.2) ∧ (x ≠ 4 → (x = 1 ∨ x = 3) ∧ jx_callOk m y k = true) := by
  simp only [jx_rowOk] at hro
  obtain ⟨h1, h2⟩ := (Bool.and_eq_true_iff).mp hro
  refine ⟨h1, ?_⟩
  cases v
  case int k =>
    refine ⟨k, rfl, fun hx => ?_, fun hx => ?_⟩
    · simp only [if_pos hx] at h2
      obtain ⟨h3, h4⟩ := (Bool.and_eq_true_iff).mp h2
      exact ⟨Nat.le_of_ble_eq_true h3, Nat.le_of_ble_eq_true h4⟩
    · simp only [if_neg hx] at h2
      obtain ⟨h3, h4⟩ := (Bool.and_eq_true_iff).mp h2
      exact ⟨(Bool.or_eq_true_iff.mp h3).imp Nat.eq_of_beq_eq_true Nat.eq_of_beq_eq_true, h4⟩
  all_goals cases h2
theorem jx_ro_stc {m pc len n x y : Nat} {v : Value} (hro : jx_rowOk m pc (.invokestatic n, len, x, y, v) = true) : (jx_pM.any fun q => Nat.beq q.1 (jx_mi m).2.2.2.2.1 && Nat.beq q.2.1 n && Nat.beq q.2.2.1 x && Nat.beq q.2.2.2.1 y) = true ∧ ∃ k, v = .int k ∧ (x = 6 → 1 ≤ (jx_mi m).2.2.2.2.2.1 ∧ 32 ≤ (jx_mi m).2.2.2.2.2.2) ∧ (x ≠ 6 → (x = 2 ∨ x = 7) ∧ jx_callOk m y k = true) := by
  simp only [jx_rowOk] at hro
  obtain ⟨h1, h2⟩ := (Bool.and_eq_true_iff).mp hro
  refine ⟨h1, ?_⟩
  cases v
  case int k =>
    refine ⟨k, rfl, fun hx => ?_, fun hx => ?_⟩
    · simp only [if_pos hx] at h2
      obtain ⟨h3, h4⟩ := (Bool.and_eq_true_iff).mp h2
      exact ⟨Nat.le_of_ble_eq_true h3, Nat.le_of_ble_eq_true h4⟩
    · simp only [if_neg hx] at h2
      obtain ⟨h3, h4⟩ := (Bool.and_eq_true_iff).mp h2
      exact ⟨(Bool.or_eq_true_iff.mp h3).imp Nat.eq_of_beq_eq_true Nat.eq_of_beq_eq_true, h4⟩
  all_goals cases h2
theorem jx_ro_vir {m pc len n x y : Nat} {v : Value} (hro : jx_rowOk m pc (.invokevirtual n, len, x, y, v) = true) : (jx_pM.any fun q => Nat.beq q.1 (jx_mi m).2.2.2.2.1 && Nat.beq q.2.1 n && Nat.beq q.2.2.1 x && Nat.beq q.2.2.2.1 y) = true ∧ ∃ k, v = .int k ∧ (x = 5 → 1 ≤ (jx_mi m).2.2.2.2.2.1 ∧ 22 ≤ (jx_mi m).2.2.2.2.2.2) ∧ (x ≠ 5 → x = 0 ∧ jx_callOk m y k = true) := by
  simp only [jx_rowOk] at hro
  obtain ⟨h1, h2⟩ := (Bool.and_eq_true_iff).mp hro
  refine ⟨h1, ?_⟩
  cases v
  case int k =>
    refine ⟨k, rfl, fun hx => ?_, fun hx => ?_⟩
    · simp only [if_pos hx] at h2
      obtain ⟨h3, h4⟩ := (Bool.and_eq_true_iff).mp h2
      exact ⟨Nat.le_of_ble_eq_true h3, Nat.le_of_ble_eq_true h4⟩
    · simp only [if_neg hx] at h2
      obtain ⟨h3, h4⟩ := (Bool.and_eq_true_iff).mp h2
      exact ⟨Nat.eq_of_beq_eq_true h3, h4⟩
  all_goals cases h2
theorem jx_ro_a {m pc len x y : Nat} {v : Value} (hro : jx_rowOk m pc (.areturn, len, x, y, v) = true) : ∃ rt, (jx_mi m).2.2.2.1 = some rt ∧ ((∃ n, rt = .object n) ∨ ∃ t, rt = .array t) := by
  simp only [jx_rowOk] at hro
  split at hro
  · rename_i n hn; exact ⟨_, hn, Or.inl ⟨n, rfl⟩⟩
  · rename_i n hn; exact ⟨_, hn, Or.inr ⟨n, rfl⟩⟩
  · cases hro
/-- an invocation that isn't a native's gives no next place, a native's no call -/
theorem jx_no_sp {pc n len x y : Nat} {v : Value} {ls st : List Value} {h : jx_H} {q : Nat × List Value × List Value × jx_H} (hx : x ≠ 4) (ha : jx_act pc (.invokespecial n, len, x, y, v) ls st h = some (.inl q)) : False := by
  simp only [jx_act] at ha
  split at ha
  · rw [if_neg hx] at ha
    split at ha
    · split at ha <;> cases ha
    · cases ha
  · cases ha
theorem jx_no_stc {pc n len x y : Nat} {v : Value} {ls st : List Value} {h : jx_H} {q : Nat × List Value × List Value × jx_H} (hx : x ≠ 6) (ha : jx_act pc (.invokestatic n, len, x, y, v) ls st h = some (.inl q)) : False := by
  simp only [jx_act] at ha
  split at ha
  · rw [if_neg hx] at ha
    split at ha <;> cases ha
  · cases ha
theorem jx_no_vir {pc n len x y : Nat} {v : Value} {ls st : List Value} {h : jx_H} {q : Nat × List Value × List Value × jx_H} (hx : x ≠ 5) (ha : jx_act pc (.invokevirtual n, len, x, y, v) ls st h = some (.inl q)) : False := by
  simp only [jx_act] at ha
  split at ha
  · rw [if_neg hx] at ha
    split at ha
    · split at ha
      · split at ha <;> cases ha
      · cases ha
    · cases ha
  · cases ha
