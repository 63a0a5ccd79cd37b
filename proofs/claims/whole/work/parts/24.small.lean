/-! the reference's readers -/
theorem rf_le64 (a b : Int64) : (a ≤ b) ↔ a.toInt ≤ b.toInt := Int64.le_iff_toInt_le
/-- 1 or 0 -/
def rf_o (P : Prop) [Decidable P] : Int32 := if P then 1 else 0
theorem rf_o_01 (P : Prop) [Decidable P] : rf_o P = 0 ∨ rf_o P = 1 := by unfold rf_o; by_cases h : P <;> simp [h]
theorem rf_o_0 (P : Prop) [Decidable P] : rf_o P = 0 ↔ ¬ P := by unfold rf_o; by_cases h : P <;> simp [h]
theorem rf_ot {P : Prop} [Decidable P] (h : P) : rf_o P = 1 := if_pos h
theorem rf_of {P : Prop} [Decidable P] (h : ¬ P) : rf_o P = 0 := if_neg h
theorem rc_inI (a b c : Int64) (h : jx_H) : jx_T 136 0 (jx_ent 136 [.long a, .long b, .long c]) [] h (some (.int (rf_o (b.toInt ≤ a.toInt ∧ a.toInt ≤ c.toInt)))) h := by
  have := rc_in a b c h
  have e : (if b ≤ a ∧ a ≤ c then (1 : Int32) else 0) = rf_o (b.toInt ≤ a.toInt ∧ a.toInt ≤ c.toInt) := by
    unfold rf_o
    simp only [rf_le64]
  rw [e] at this
  exact this
theorem rf_retB {r m pc : Nat} {ls : List Value} {h : jx_H} {R : rf_R} {y : Nat} {vv : Value} {P : Prop} [Decidable P] (H : rf_At r R h) (hr : jx_rc m pc = some (.ireturn, 1, 1, y, vv)) : rf_G r m pc ls [.int (rf_o P)] h (some (.int (rf_o P))) R := by
  refine rf_G.ret H hr ?_
  rcases rf_o_01 P with q | q <;> simp [jx_act, q]
theorem rf_w (k : Int32) : k.toInt64.toInt = k.toInt := by simp
theorem rc_isSheetI (r : Nat) (R : rf_R) (k : Int32) : rf_C 135 r [.ref r, .int k] R (some (.int (rf_o (0 ≤ k.toInt ∧ k.toInt ≤ 7)))) R := by
  intro h H
  show rf_G r 135 0 [.ref r, .int k] [] h _ R
  refine rf_G.step (pc' := 1) (st' := [_]) rfl rfl ?_
  refine rf_G.step (pc' := 2) (st' := [_]) rfl rfl ?_
  refine rf_G.step (pc' := 3) (st' := [_, _]) rfl rfl ?_
  refine rf_G.step (pc' := 6) (st' := [_, _, _]) rfl rfl ?_
  refine rf_G.s3 rfl (by decide) rfl (Nat.le_of_ble_eq_true rfl) (Nat.le_of_ble_eq_true rfl) (fun h => rc_inI _ _ _ h) ?_
  rw [rf_w]
  exact rf_retB H rfl
theorem rc_isNet (r : Nat) (R : rf_R) (k : Int32) : rf_C 178 r [.ref r, .int k] R (some (.int (rf_o (0 ≤ k.toInt ∧ k.toInt ≤ 3)))) R := by
  intro h H
  show rf_G r 178 0 [.ref r, .int k] [] h _ R
  refine rf_G.step (pc' := 1) (st' := [_]) rfl rfl ?_
  refine rf_G.step (pc' := 2) (st' := [_]) rfl rfl ?_
  refine rf_G.step (pc' := 3) (st' := [_, _]) rfl rfl ?_
  refine rf_G.step (pc' := 6) (st' := [_, _, _]) rfl rfl ?_
  refine rf_G.s3 rfl (by decide) rfl (Nat.le_of_ble_eq_true rfl) (Nat.le_of_ble_eq_true rfl) (fun h => rc_inI _ _ _ h) ?_
  rw [rf_w]
  exact rf_retB H rfl
theorem rc_isWork (k : Int32) (h : jx_H) : jx_T 158 0 (jx_ent 158 [.int k]) [] h (some (.int (rf_o (0 ≤ k.toInt ∧ k.toInt ≤ 3)))) h := by
  show jx_T 158 0 [.int k] [] h _ h
  refine jx_T.step (pc' := 1) (st' := [_]) rfl rfl ?_
  refine jx_T.step (pc' := 2) (st' := [_]) rfl rfl ?_
  refine jx_T.step (pc' := 3) (st' := [_, _]) rfl rfl ?_
  refine jx_T.step (pc' := 6) (st' := [_, _, _]) rfl rfl ?_
  refine jx_T.stat rfl (by decide) ⟨Nat.le_of_ble_eq_true rfl, Nat.le_of_ble_eq_true rfl⟩ rfl rfl (Nat.le_of_ble_eq_true rfl) (rc_inI _ _ _ h) ?_
  rw [rf_w]
  refine jx_T.ret rfl ?_
  rcases rf_o_01 (0 ≤ k.toInt ∧ k.toInt ≤ 3) with q | q
  · show jx_act 9 (.ireturn, 1, 1, 0, .null) _ [.int (rf_o (0 ≤ k.toInt ∧ k.toInt ≤ 3))] h = _
    simp [jx_act, q]
  · show jx_act 9 (.ireturn, 1, 1, 0, .null) _ [.int (rf_o (0 ≤ k.toInt ∧ k.toInt ≤ 3))] h = _
    simp [jx_act, q]
theorem rc_of (r : Nat) (R : rf_R) (s w : Nat) (hs : s < 12) (hw : w < 24) : rf_C 153 r [.ref r, .int (nI s), .int (nI w)] R (some (.int (R.1 0 (2 + 24 * s + w)))) R := by
  intro h H
  show rf_G r 153 0 [.ref r, .int (nI s), .int (nI w)] [] h _ R
  refine rf_G.step (pc' := 1) (st' := [_]) rfl rfl ?_
  refine rf_G.get H rfl rfl ?_
  refine rf_G.step (pc' := 5) (st' := [_, _]) rfl rfl ?_
  refine rf_G.step (pc' := 7) (st' := [_, _, _]) rfl rfl ?_
  refine rf_G.step (pc' := 8) (st' := [_, _, _, _]) rfl rfl ?_
  refine rf_G.step (pc' := 9) (st' := [_, _, _]) rfl rfl ?_
  refine rf_G.step (pc' := 10) (st' := [_, _]) rfl rfl ?_
  refine rf_G.step (pc' := 11) (st' := [_, _, _]) rfl rfl ?_
  refine rf_G.step (pc' := 12) (st' := [_, _]) rfl rfl ?_
  rw [show (2 : Int32) + 24 * nI s + nI w = nI (2 + 24 * s + w) by rw [rf_lit 2, rf_lit 24, pk_mul, nI_add, nI_add]]
  refine rf_G.iald H 0 1 822 (by decide) rfl (rf_ix (by omega) (by decide)) ?_
  rw [nI_clamp (by omega)]
  exact rf_G.ret H rfl rfl
theorem rc_meetings (r : Nat) (R : rf_R) (n : Nat) (hn : n < 4) : rf_C 179 r [.ref r, .int (nI n)] R (some (.int (R.1 0 (434 + 61 * n)))) R := by
  intro h H
  show rf_G r 179 0 [.ref r, .int (nI n)] [] h _ R
  refine rf_G.step (pc' := 1) (st' := [_]) rfl rfl ?_
  refine rf_G.get H rfl rfl ?_
  refine rf_G.step (pc' := 7) (st' := [_, _]) rfl rfl ?_
  refine rf_G.step (pc' := 9) (st' := [_, _, _]) rfl rfl ?_
  refine rf_G.step (pc' := 10) (st' := [_, _, _, _]) rfl rfl ?_
  refine rf_G.step (pc' := 11) (st' := [_, _, _]) rfl rfl ?_
  refine rf_G.step (pc' := 12) (st' := [_, _]) rfl rfl ?_
  rw [show (434 : Int32) + 61 * nI n = nI (434 + 61 * n) by rw [rf_lit 434, rf_lit 61, pk_mul, nI_add]]
  refine rf_G.iald H 0 1 822 (by decide) rfl (rf_ix (by omega) (by decide)) ?_
  rw [nI_clamp (by omega)]
  exact rf_G.ret H rfl rfl
theorem rc_meeting (r : Nat) (R : rf_R) (n k w : Nat) (hn : n < 4) (hk : k < 20) (hw : w < 3) : rf_C 183 r [.ref r, .int (nI n), .int (nI k), .int (nI w)] R (some (.int (R.1 0 (434 + 61 * n + 1 + 3 * k + w)))) R := by
  intro h H
  show rf_G r 183 0 [.ref r, .int (nI n), .int (nI k), .int (nI w)] [] h _ R
  refine rf_G.step (pc' := 1) (st' := [_]) rfl rfl ?_
  refine rf_G.get H rfl rfl ?_
  refine rf_G.step (pc' := 7) (st' := [_, _]) rfl rfl ?_
  refine rf_G.step (pc' := 9) (st' := [_, _, _]) rfl rfl ?_
  refine rf_G.step (pc' := 10) (st' := [_, _, _, _]) rfl rfl ?_
  refine rf_G.step (pc' := 11) (st' := [_, _, _]) rfl rfl ?_
  refine rf_G.step (pc' := 12) (st' := [_, _]) rfl rfl ?_
  refine rf_G.step (pc' := 13) (st' := [_, _, _]) rfl rfl ?_
  refine rf_G.step (pc' := 14) (st' := [_, _]) rfl rfl ?_
  refine rf_G.step (pc' := 15) (st' := [_, _, _]) rfl rfl ?_
  refine rf_G.step (pc' := 16) (st' := [_, _, _, _]) rfl rfl ?_
  refine rf_G.step (pc' := 17) (st' := [_, _, _]) rfl rfl ?_
  refine rf_G.step (pc' := 18) (st' := [_, _]) rfl rfl ?_
  refine rf_G.step (pc' := 19) (st' := [_, _, _]) rfl rfl ?_
  refine rf_G.step (pc' := 20) (st' := [_, _]) rfl rfl ?_
  rw [show (434 : Int32) + 61 * nI n + 1 + 3 * nI k + nI w = nI (434 + 61 * n + 1 + 3 * k + w) by rw [rf_lit 434, rf_lit 61, rf_lit 1, rf_lit 3, pk_mul, pk_mul, nI_add, nI_add, nI_add, nI_add]]
  refine rf_G.iald H 0 1 822 (by decide) rfl (rf_ix (by omega) (by decide)) ?_
  rw [nI_clamp (by omega)]
  exact rf_G.ret H rfl rfl
theorem rc_isForbidden (r : Nat) (R : rf_R) (a c : Nat) (ha : a < 12) (hc : c < 12) : rf_C 199 r [.ref r, .int (nI a), .int (nI c)] R (some (.int (rf_o (R.1 0 (678 + 12 * a + c) = 1)))) R := by
  intro h H
  show rf_G r 199 0 [.ref r, .int (nI a), .int (nI c)] [] h _ R
  refine rf_G.step (pc' := 1) (st' := [_]) rfl rfl ?_
  refine rf_G.get H rfl rfl ?_
  refine rf_G.step (pc' := 7) (st' := [_, _]) rfl rfl ?_
  refine rf_G.step (pc' := 9) (st' := [_, _, _]) rfl rfl ?_
  refine rf_G.step (pc' := 10) (st' := [_, _, _, _]) rfl rfl ?_
  refine rf_G.step (pc' := 11) (st' := [_, _, _]) rfl rfl ?_
  refine rf_G.step (pc' := 12) (st' := [_, _]) rfl rfl ?_
  refine rf_G.step (pc' := 13) (st' := [_, _, _]) rfl rfl ?_
  refine rf_G.step (pc' := 14) (st' := [_, _]) rfl rfl ?_
  rw [show (678 : Int32) + 12 * nI a + nI c = nI (678 + 12 * a + c) by rw [rf_lit 678, rf_lit 12, pk_mul, nI_add, nI_add]]
  refine rf_G.iald H 0 1 822 (by decide) rfl (rf_ix (by omega) (by decide)) ?_
  refine rf_G.step (pc' := 16) (st' := [_, _]) rfl rfl ?_
  rw [nI_clamp (by omega)]
  refine rf_G.bcn rfl (fun q => ?_) (fun q => ?_)
  · rw [rf_of q]
    refine rf_G.step (pc' := 24) (st' := [_]) rfl rfl ?_
    exact rf_G.ret H rfl rfl
  · rw [rf_ot q]
    refine rf_G.step (pc' := 20) (st' := [_]) rfl rfl ?_
    refine rf_G.step (pc' := 24) (st' := [_]) rfl rfl ?_
    exact rf_G.ret H rfl rfl
theorem rc_levelAt (r : Nat) (R : rf_R) (s : Nat) (hs : s < 12) (w : Int32) : rf_C 163 r [.ref r, .int (nI s), .int w] R (some (.int (if R.1 0 (2 + 24 * s + 1) = 1 then w - R.1 0 1 else w))) R := by
  intro h H
  show rf_G r 163 0 [.ref r, .int (nI s), .int w] [] h _ R
  refine rf_G.step (pc' := 1) (st' := [_]) rfl rfl ?_
  refine rf_G.step (pc' := 2) (st' := [_, _]) rfl rfl ?_
  refine rf_G.step (pc' := 3) (st' := [_, _, _]) rfl rfl ?_
  refine rf_G.v2I H rfl (by decide) rfl ⟨Nat.le_of_ble_eq_true rfl, rfl⟩ (Nat.le_of_ble_eq_true rfl) (rc_of r R s 1 hs (by decide)) (fun h H => ?_)
  refine rf_G.step (pc' := 7) (st' := [_, _]) rfl rfl ?_
  refine rf_G.bcn rfl (fun q => ?_) (fun q => ?_)
  · rw [if_neg q]
    refine rf_G.step (pc' := 22) (st' := [_]) rfl rfl ?_
    exact rf_G.ret H rfl rfl
  · rw [if_pos q]
    refine rf_G.step (pc' := 11) (st' := [_]) rfl rfl ?_
    refine rf_G.step (pc' := 12) (st' := [_, _]) rfl rfl ?_
    refine rf_G.get H rfl rfl ?_
    refine rf_G.step (pc' := 16) (st' := [_, _, _]) rfl rfl ?_
    refine rf_G.iald H 0 1 822 (by decide) rfl (rf_ix (n := 1) (by decide) (by decide)) ?_
    refine rf_G.step (pc' := 18) (st' := [_]) rfl rfl ?_
    refine rf_G.step (pc' := 22) (st' := [_]) rfl rfl ?_
    exact rf_G.ret H rfl rfl
theorem rc_isOf (r : Nat) (R : rf_R) (s : Nat) (hs : s < 12) (w : Int32) : rf_C 161 r [.ref r, .int (nI s), .int w] R (some (.int (rf_o (R.1 0 (2 + 24 * s) < 3 ∧ (w = 3 ∨ R.1 0 (2 + 24 * s + 2) = w))))) R := by
  intro h H
  show rf_G r 161 0 [.ref r, .int (nI s), .int w] [] h _ R
  refine rf_G.step (pc' := 1) (st' := [_]) rfl rfl ?_
  refine rf_G.step (pc' := 2) (st' := [_, _]) rfl rfl ?_
  refine rf_G.step (pc' := 3) (st' := [_, _, _]) rfl rfl ?_
  refine rf_G.v2I H rfl (by decide) rfl ⟨Nat.le_of_ble_eq_true rfl, rfl⟩ (Nat.le_of_ble_eq_true rfl) (rc_of r R s 0 hs (by decide)) (fun h H => ?_)
  refine rf_G.step (pc' := 7) (st' := [_, _]) rfl rfl ?_
  refine rf_G.bc rfl (jx_br_ge _ _) (fun q => ?_) (fun q => ?_)
  · rw [rf_of (fun z => absurd z.1 (Int32.not_lt.mpr q))]
    refine rf_G.step (pc' := 30) (st' := [_]) rfl rfl ?_
    exact rf_G.ret H rfl rfl
  · have q2 : R.1 0 (2 + 24 * s) < 3 := Int32.not_le.mp q
    refine rf_G.step (pc' := 11) (st' := [_]) rfl rfl ?_
    refine rf_G.step (pc' := 12) (st' := [_, _]) rfl rfl ?_
    refine rf_G.bc rfl (jx_br_eq _ _) (fun z => ?_) (fun z => ?_)
    · rw [rf_ot ⟨q2, Or.inl z⟩]
      refine rf_G.step (pc' := 26) (st' := [_]) rfl rfl ?_
      refine rf_G.step (pc' := 30) (st' := [_]) rfl rfl ?_
      exact rf_G.ret H rfl rfl
    · refine rf_G.step (pc' := 16) (st' := [_]) rfl rfl ?_
      refine rf_G.step (pc' := 17) (st' := [_, _]) rfl rfl ?_
      refine rf_G.step (pc' := 18) (st' := [_, _, _]) rfl rfl ?_
      refine rf_G.v2I H rfl (by decide) rfl ⟨Nat.le_of_ble_eq_true rfl, rfl⟩ (Nat.le_of_ble_eq_true rfl) (rc_of r R s 2 hs (by decide)) (fun h H => ?_)
      refine rf_G.step (pc' := 22) (st' := [_, _]) rfl rfl ?_
      refine rf_G.bcn rfl (fun y => ?_) (fun y => ?_)
      · rw [rf_of (fun u => u.2.elim z y)]
        refine rf_G.step (pc' := 30) (st' := [_]) rfl rfl ?_
        exact rf_G.ret H rfl rfl
      · rw [rf_ot ⟨q2, Or.inr y⟩]
        refine rf_G.step (pc' := 26) (st' := [_]) rfl rfl ?_
        refine rf_G.step (pc' := 30) (st' := [_]) rfl rfl ?_
        exact rf_G.ret H rfl rfl
theorem rc_length (r : Nat) (R : rf_R) (k : Nat) (hk : k < 8) : rf_C 140 r [.ref r, .int (nI k)] R (some (.int (if R.1 0 (290 + 18 * k) = -1 then 0 else R.1 0 (290 + 18 * k + 1)))) R := by
  intro h H
  show rf_G r 140 0 [.ref r, .int (nI k)] [] h _ R
  refine rf_G.step (pc' := 1) (st' := [_]) rfl rfl ?_
  refine rf_G.step (pc' := 2) (st' := [_, _]) rfl rfl ?_
  refine rf_G.v1I H rfl (by decide) rfl ⟨Nat.le_of_ble_eq_true rfl, rfl⟩ (Nat.le_of_ble_eq_true rfl) (rc_form r R k hk) (fun h H => ?_)
  refine rf_G.step (pc' := 6) (st' := [_, _]) rfl rfl ?_
  refine rf_G.bcn rfl (fun q => ?_) (fun q => ?_)
  · rw [if_neg q]
    refine rf_G.step (pc' := 14) (st' := [_]) rfl rfl ?_
    refine rf_G.get H rfl rfl ?_
    refine rf_G.step (pc' := 20) (st' := [_, _]) rfl rfl ?_
    refine rf_G.step (pc' := 22) (st' := [_, _, _]) rfl rfl ?_
    refine rf_G.step (pc' := 23) (st' := [_, _, _, _]) rfl rfl ?_
    refine rf_G.step (pc' := 24) (st' := [_, _, _]) rfl rfl ?_
    refine rf_G.step (pc' := 25) (st' := [_, _]) rfl rfl ?_
    refine rf_G.step (pc' := 26) (st' := [_, _, _]) rfl rfl ?_
    refine rf_G.step (pc' := 27) (st' := [_, _]) rfl rfl ?_
    rw [show (290 : Int32) + 18 * nI k + 1 = nI (290 + 18 * k + 1) by rw [rf_lit 290, rf_lit 18, rf_lit 1, pk_mul, nI_add, nI_add]]
    refine rf_G.iald H 0 1 822 (by decide) rfl (rf_ix (by omega) (by decide)) ?_
    rw [nI_clamp (by omega)]
    exact rf_G.ret H rfl rfl
  · rw [if_pos q]
    refine rf_G.step (pc' := 10) (st' := [_]) rfl rfl ?_
    refine rf_G.step (pc' := 28) (st' := [_]) rfl rfl ?_
    exact rf_G.ret H rfl rfl
/-- acts: the next state is kept -/
def rf_acts (R : rf_R) (B D : Nat) : rf_R := if D = 200 then rf_sA (rf_sI (rf_sI R 4 0) 2 (nI ((B + 1) % 201))) 1 (rf_put (R.1 1) (R.1 0) (rf_pl ((B + 1) % 201) 200) 822) else rf_sA (rf_sI (rf_sI R 4 0) 3 (nI (D + 1))) 1 (rf_put (R.1 1) (R.1 0) (rf_pl B (D + 1)) 822)
theorem rc_acts (r : Nat) (R : rf_R) (B D : Nat) (hB : B < 201) (hD : D ≤ 200) (e2 : R.2.2.1 2 = nI B) (e3 : R.2.2.1 3 = nI D) : rf_C 137 r [.ref r] R (some (.int 0)) (rf_acts R B D) := by
  unfold rf_acts
  by_cases h : D = 200
  · rw [if_pos h]
    subst h
    exact rc_acts_full r R B hB e2 e3
  · rw [if_neg h]
    exact rc_acts_lt r R B D hB (by omega) e2 e3
