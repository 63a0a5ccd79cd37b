/-! a stream's levels as whole numbers -/
section
variable {N : Nat → Int32} {i : Nat}
def tl_g (N : Nat → Int32) (i : Nat) : Int := if N (2 + 24 * i + 1) = 1 then (N 1).toInt else 0
theorem tl_e_in (ok : tl_ok N i) : ∀ j, j ≤ rf_sp N i → 0 ≤ tl_e N i j ∧ tl_e N i j ≤ 2000
  | 0, _ => ok.2.1
  | j + 1, hj => by
    obtain ⟨-, -, -, c⟩ := ok
    rcases c with ⟨-, b, -⟩ | ⟨-, b, -⟩ | ⟨-, -, -, -, c⟩
    · omega
    · omega
    · exact (c j (by omega)).2.2
theorem tl_d_in (ok : tl_ok N i) {j : Nat} (hj : j < rf_sp N i) : (1 ≤ (tl_d N i j).toInt ∧ (tl_d N i j).toInt ≤ 2000) ∧ (1 ≤ (tl_q N i j).toInt ∧ (tl_q N i j).toInt ≤ 1000) := by
  have h1 := tl_e_in ok j (by omega)
  have h2 := tl_e_in ok (j + 1) (by omega)
  have hc2 : 1 ≤ (tl_d N i j).toInt ∧ (1 ≤ (tl_q N i j).toInt ∧ (tl_q N i j).toInt ≤ 1000) := by
    obtain ⟨-, -, -, c⟩ := ok
    rcases c with ⟨-, b, -⟩ | ⟨-, b, -⟩ | ⟨-, -, -, -, c⟩
    · omega
    · omega
    · exact ⟨(c j hj).1, (c j hj).2.1⟩
  refine ⟨⟨hc2.1, ?_⟩, hc2.2⟩
  unfold tl_e at h2
  by_cases z : N (2 + 24 * i + 1) = 1
  · rw [if_pos z] at h2
    omega
  · rw [if_neg z] at h2
    omega
theorem tl_bt (ok : tl_ok N i) (hg : 1 ≤ (N 1).toInt ∧ (N 1).toInt ≤ 200) : ∀ k, k ≤ rf_sp N i → (rf_bt N i k).toInt = tl_e N i k - tl_g N i
  | 0, _ => by
    have h := ok.2.1
    unfold rf_bt rf_lvl tl_e tl_g
    by_cases z : N (2 + 24 * i + 1) = 1
    · rw [if_pos z, if_pos z, Int32.toInt_sub]
      exact Int.bmod_eq_of_le (by omega) (by omega)
    · rw [if_neg z, if_neg z, Int.sub_zero]
  | k + 1, hk => by
    have ih := tl_bt ok hg k (by omega)
    have h8 := ok.2.2.1.2
    have h1 := tl_e_in ok k (by omega)
    have h2 := tl_e_in ok (k + 1) hk
    obtain ⟨hd1, -⟩ := tl_d_in ok (j := k) (by omega)
    have ed : tl_d N i k = N (2 + 24 * i + (6 + 2 * k)) := by
      unfold tl_d
      rw [if_pos (by omega), Nat.add_assoc]
    have gb : 0 ≤ tl_g N i ∧ tl_g N i ≤ 200 := by
      unfold tl_g
      split <;> omega
    unfold rf_bt
    rw [← ed]
    unfold tl_e at h2 ⊢
    by_cases z : N (2 + 24 * i + 1) = 1
    · rw [if_pos z] at h2
      rw [if_pos z, if_pos z, ← Int32.sub_eq_add_neg, Int32.toInt_sub, ih, Int.bmod_eq_of_le (by omega) (by omega)]
      omega
    · rw [if_neg z] at h2
      rw [if_neg z, if_neg z, Int32.toInt_add, ih, Int.bmod_eq_of_le (by omega) (by omega)]
      omega
end
