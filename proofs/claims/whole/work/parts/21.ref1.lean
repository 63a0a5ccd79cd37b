/-! the reference's small methods -/
theorem rf_b2 {P : Prop} [Decidable P] : (if P then (1 : Int32) else 0) = 0 ↔ ¬ P := by by_cases h : P <;> simp [h]
theorem lg_cmp_lt0 (x y : Int64) : (lg_cmp x y < 0) ↔ x < y := by
  unfold lg_cmp
  by_cases h1 : x > y
  · have h2 : ¬ x < y := fun q => by
      have a := Int64.lt_iff_toInt_lt.mp q
      have b := Int64.lt_iff_toInt_lt.mp h1
      omega
    simp [h1, h2]
  · by_cases h3 : x = y
    · subst h3; simp
    · have h2 : x < y := by
        rw [Int64.lt_iff_toInt_lt]
        have a : ¬ y.toInt < x.toInt := fun q => h1 (Int64.lt_iff_toInt_lt.mpr q)
        have b : x.toInt ≠ y.toInt := fun q => h3 (Int64.toInt_inj.mp q)
        omega
      simp [h1, h3, h2]
theorem lg_cmp_gt0 (x y : Int64) : (0 < lg_cmp x y) ↔ y < x := by
  unfold lg_cmp
  by_cases h1 : x > y
  · simp [h1]
  · by_cases h3 : x = y
    · subst h3; simp
    · have h4 : ¬ y < x := h1
      simp [h4, h3]
theorem rc_in (a b c : Int64) (h : jx_H) : jx_T 136 0 (jx_ent 136 [.long a, .long b, .long c]) [] h (some (.int (if b ≤ a ∧ a ≤ c then 1 else 0))) h := by
  show jx_T 136 0 [.long a, .retAddr 0, .long b, .retAddr 0, .long c, .retAddr 0] [] h _ h
  refine jx_T.step (pc' := 1) (st' := [_]) rfl rfl ?_
  refine jx_T.step (pc' := 2) (st' := [_, _]) rfl rfl ?_
  refine jx_T.step (pc' := 3) (st' := [_]) rfl rfl ?_
  by_cases h1 : a < b
  · refine jx_T.if_t rfl (fun α s t => by rw [jx_br_lt, if_pos ((lg_cmp_lt0 a b).mpr h1)]) ?_
    rw [if_neg (fun q => by have := Int64.not_le.mpr h1; exact this q.1)]
    refine jx_T.step (pc' := 18) (st' := [_]) rfl rfl ?_
    exact jx_T.ret rfl rfl
  · refine jx_T.if_f rfl (fun α s t => by rw [jx_br_lt, if_neg (fun q => h1 ((lg_cmp_lt0 a b).mp q))]) ?_
    refine jx_T.step (pc' := 7) (st' := [_]) rfl rfl ?_
    refine jx_T.step (pc' := 9) (st' := [_, _]) rfl rfl ?_
    refine jx_T.step (pc' := 10) (st' := [_]) rfl rfl ?_
    by_cases h2 : c < a
    · refine jx_T.if_t rfl (fun α s t => by rw [jx_br_gt, if_pos ((lg_cmp_gt0 a c).mpr h2)]) ?_
      rw [if_neg (fun q => by have := Int64.not_le.mpr h2; exact this q.2)]
      refine jx_T.step (pc' := 18) (st' := [_]) rfl rfl ?_
      exact jx_T.ret rfl rfl
    · refine jx_T.if_f rfl (fun α s t => by rw [jx_br_gt, if_neg (fun q => h2 ((lg_cmp_gt0 a c).mp q))]) ?_
      rw [if_pos ⟨Int64.not_lt.mp h1, Int64.not_lt.mp h2⟩]
      refine jx_T.step (pc' := 14) (st' := [_]) rfl rfl ?_
      refine jx_T.step (pc' := 18) (st' := [_]) rfl rfl ?_
      exact jx_T.ret rfl rfl
theorem rc_isSheet (r : Nat) (R : rf_R) (k : Int32) : rf_C 135 r [.ref r, .int k] R (some (.int (if (0 : Int64) ≤ k.toInt64 ∧ k.toInt64 ≤ 7 then 1 else 0))) R := by
  intro h H
  show rf_G r 135 0 [.ref r, .int k] [] h _ R
  refine rf_G.step (pc' := 1) (st' := [_]) rfl rfl ?_
  refine rf_G.step (pc' := 2) (st' := [_]) rfl rfl ?_
  refine rf_G.step (pc' := 3) (st' := [_, _]) rfl rfl ?_
  refine rf_G.step (pc' := 6) (st' := [_, _, _]) rfl rfl ?_
  refine rf_G.s3 rfl (by decide) rfl (Nat.le_of_ble_eq_true rfl) (Nat.le_of_ble_eq_true rfl) (fun h => rc_in _ _ _ h) ?_
  refine rf_G.ret H rfl ?_
  by_cases hc : (0 : Int64) ≤ k.toInt64 ∧ k.toInt64 ≤ 7 <;> simp [jx_act, hc]
theorem rf_ix {n : Nat} {N : Nat} (h : n < N) (hN : N < 2 ^ 31) : ¬ (nI n < 0) ∧ (nI n).toNatClampNeg < N := ⟨nI_pos (by omega), by rw [nI_clamp (by omega)]; exact h⟩
theorem rf_lit (n : Nat) : (OfNat.ofNat n : Int32) = nI n := rfl
theorem rc_form (r : Nat) (R : rf_R) (k : Nat) (hk : k < 8) : rf_C 139 r [.ref r, .int (nI k)] R (some (.int (R.1 0 (290 + 18 * k)))) R := by
  intro h H
  show rf_G r 139 0 [.ref r, .int (nI k)] [] h _ R
  have e : (290 : Int32) + 18 * nI k = nI (290 + 18 * k) := by rw [rf_lit 290, rf_lit 18, pk_mul, nI_add]
  refine rf_G.step (pc' := 1) (st' := [_]) rfl rfl ?_
  refine rf_G.get H rfl rfl ?_
  refine rf_G.step (pc' := 7) (st' := [_, _]) rfl rfl ?_
  refine rf_G.step (pc' := 9) (st' := [_, _, _]) rfl rfl ?_
  refine rf_G.step (pc' := 10) (st' := [_, _, _, _]) rfl rfl ?_
  refine rf_G.step (pc' := 11) (st' := [_, _, _]) rfl rfl ?_
  refine rf_G.step (pc' := 12) (st' := [_, _]) rfl rfl ?_
  rw [e]
  refine rf_G.iald H 0 1 822 (by decide) rfl (rf_ix (by omega) (by decide)) ?_
  rw [nI_clamp (by omega)]
  exact rf_G.ret H rfl rfl
