/-! the two ways of running down the levels -/
section
variable {a b ra : Nat → Int64} {n : Nat}
theorem su_shift (r0 : ra 0 = 0) (h : ∀ k, k + 1 < n → ra (k + 1) = b k) : ∀ k, k < n → hp_su ra a k + ra k = cf_su a b k ∧ hp_su ra a (k + 1) = cf_su a b k + a k
  | 0, _ => by
    have e : hp_su ra a 0 + ra 0 = cf_su a b 0 := by
      rw [r0]
      rfl
    exact ⟨e, by show hp_su ra a 0 + ra 0 + a 0 = _; rw [e]⟩
  | k + 1, hk => by
    obtain ⟨-, h2⟩ := su_shift r0 h k (by omega)
    have e : hp_su ra a (k + 1) + ra (k + 1) = cf_su a b (k + 1) := by
      rw [h2, h k hk]
      rfl
    exact ⟨e, by show hp_su ra a (k + 1) + ra (k + 1) + a (k + 1) = _; rw [e]⟩
theorem lmin_i (x y : Int64) : (lmin x y).toInt = if y.toInt < x.toInt then y.toInt else x.toInt := by
  unfold lmin
  by_cases z : y < x
  · rw [if_pos z, if_pos (Int64.lt_iff_toInt_lt.mp z)]
  · rw [if_neg z, if_neg (fun q => z (Int64.lt_iff_toInt_lt.mpr q))]
theorem rf_min_i (x y : Int64) : (rf_min x y).toInt = if y.toInt ≤ x.toInt then y.toInt else x.toInt := by
  unfold rf_min
  by_cases z : y ≤ x
  · rw [if_pos z, if_pos (Int64.le_iff_toInt_le.mp z)]
  · rw [if_neg z, if_neg (fun q => z (Int64.le_iff_toInt_le.mpr q))]
theorem mn_shift (r0 : ra 0 = 0) (h : ∀ k, k + 1 < n → ra (k + 1) = b k) : ∀ k, k ≤ n → hp_mn ra a k = cf_mn a b k
  | 0, _ => rfl
  | k + 1, hk => by
    have ih := mn_shift r0 h k (by omega)
    obtain ⟨h1, h2⟩ := su_shift (a := a) r0 h k (by omega)
    unfold hp_mn cf_mn
    rw [h1, h2, ih]
    apply Int64.toInt_inj.mp
    rw [rf_min_i, rf_min_i, lmin_i, lmin_i]
    generalize (cf_su a b k).toInt = p
    generalize (cf_su a b k + a k).toInt = q
    generalize (cf_mn a b k).toInt = r
    split <;> split <;> (try split) <;> (try split) <;> omega
end
