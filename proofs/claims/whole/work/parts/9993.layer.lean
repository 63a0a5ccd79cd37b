/-! the reference's heat between two levels as a whole number -/
def ov_t (a b : Int) : Int := if a ≤ b then b else a
def ov_b (a b : Int) : Int := if a ≤ b then a else b
def ov (a b hi lo : Int) : Int := if (if hi ≤ ov_t a b then hi else ov_t a b) ≤ (if ov_b a b ≤ lo then lo else ov_b a b) then 0 else (if hi ≤ ov_t a b then hi else ov_t a b) - (if ov_b a b ≤ lo then lo else ov_b a b)
def bw_I (N : Nat → Int32) (i : Nat) (hi lo : Int) : Nat → Int
  | 0 => 0
  | k + 1 => bw_I N i hi lo k + ov (tl_e N i k - tl_g N i) (tl_e N i (k + 1) - tl_g N i) hi lo * (tl_q N i k).toInt
theorem ov_in {a b hi lo : Int} (ha : -200 ≤ a ∧ a ≤ 2000) (hb : -200 ≤ b ∧ b ≤ 2000) : 0 ≤ ov a b hi lo ∧ ov a b hi lo ≤ 2200 := by
  unfold ov ov_t ov_b
  split <;> (try split) <;> (try split) <;> omega
theorem i32_ite {P Q : Prop} [Decidable P] [Decidable Q] (h : P ↔ Q) {x y : Int32} : (if P then x else y).toInt = if Q then x.toInt else y.toInt := by
  by_cases z : P
  · rw [if_pos z, if_pos (h.mp z)]
  · rw [if_neg z, if_neg (fun q => z (h.mpr q))]
theorem ov_ba (t u hi : Int32) : (rf_ba t u hi).toInt = if hi.toInt ≤ ov_t t.toInt u.toInt then hi.toInt else ov_t t.toInt u.toInt := by
  have e : (rf_tp t u).toInt = ov_t t.toInt u.toInt := i32_ite Int32.le_iff_toInt_le
  unfold rf_ba
  rw [i32_ite (Q := hi.toInt ≤ (rf_tp t u).toInt) Int32.le_iff_toInt_le, e]
theorem ov_bb (t u lo : Int32) : (rf_bb t u lo).toInt = if ov_b t.toInt u.toInt ≤ lo.toInt then lo.toInt else ov_b t.toInt u.toInt := by
  have e : (rf_en t u).toInt = ov_b t.toInt u.toInt := i32_ite Int32.le_iff_toInt_le
  unfold rf_bb
  rw [i32_ite (Q := (rf_en t u).toInt ≤ lo.toInt) Int32.le_iff_toInt_le, e]
section
variable {N : Nat → Int32} {i : Nat}
theorem tl_bw (ok : tl_ok N i) (hg : 1 ≤ (N 1).toInt ∧ (N 1).toInt ≤ 200) (hi lo : Int32) : ∀ k, k ≤ rf_sp N i → (rf_bw N i hi lo k).toInt = bw_I N i hi.toInt lo.toInt k ∧ (0 ≤ bw_I N i hi.toInt lo.toInt k ∧ bw_I N i hi.toInt lo.toInt k ≤ 2200000 * k)
  | 0, _ => ⟨rfl, Int.le_refl 0, Int.le_refl 0⟩
  | k + 1, hk => by
    obtain ⟨ih, l1, l2⟩ := tl_bw ok hg hi lo k (by omega)
    have h8 := ok.2.2.1.2
    have t1 := tl_bt ok hg k (by omega)
    have t2 := tl_bt ok hg (k + 1) hk
    have e1 := tl_e_in ok k (by omega)
    have e2 := tl_e_in ok (k + 1) hk
    obtain ⟨-, hq⟩ := tl_d_in ok (j := k) (by omega)
    have gb : 0 ≤ tl_g N i ∧ tl_g N i ≤ 200 := by
      unfold tl_g
      split <;> omega
    have eq : tl_q N i k = N (2 + 24 * i + (7 + 2 * k)) := by
      unfold tl_q
      rw [if_pos (by omega), Nat.add_assoc]
    have oi := ov_in (a := tl_e N i k - tl_g N i) (b := tl_e N i (k + 1) - tl_g N i) (hi := hi.toInt) (lo := lo.toInt) (by omega) (by omega)
    have mb : 0 ≤ ov (tl_e N i k - tl_g N i) (tl_e N i (k + 1) - tl_g N i) hi.toInt lo.toInt * (tl_q N i k).toInt ∧ ov (tl_e N i k - tl_g N i) (tl_e N i (k + 1) - tl_g N i) hi.toInt lo.toInt * (tl_q N i k).toInt ≤ 2200000 := by
      constructor
      · exact Int.mul_nonneg oi.1 (by omega)
      · exact Int.le_trans (Int.mul_le_mul oi.2 hq.2 (by omega) (by omega)) (by decide)
    have eb : bw_I N i hi.toInt lo.toInt (k + 1) = bw_I N i hi.toInt lo.toInt k + ov (tl_e N i k - tl_g N i) (tl_e N i (k + 1) - tl_g N i) hi.toInt lo.toInt * (tl_q N i k).toInt := rfl
    refine ⟨?_, by rw [eb]; omega, by rw [eb]; omega⟩
    rw [eb]
    unfold rf_bw rf_bn
    have ba := ov_ba (rf_bt N i k) (rf_bt N i (k + 1)) hi
    have bb := ov_bb (rf_bt N i k) (rf_bt N i (k + 1)) lo
    rw [t1, t2] at ba bb
    by_cases z : rf_ba (rf_bt N i k) (rf_bt N i (k + 1)) hi ≤ rf_bb (rf_bt N i k) (rf_bt N i (k + 1)) lo
    · have z2 := Int32.le_iff_toInt_le.mp z
      rw [ba, bb] at z2
      have : ov (tl_e N i k - tl_g N i) (tl_e N i (k + 1) - tl_g N i) hi.toInt lo.toInt = 0 := if_pos z2
      rw [if_pos z, this, Int.zero_mul, Int.add_zero]
      exact ih
    · have z2 : ¬ (rf_ba (rf_bt N i k) (rf_bt N i (k + 1)) hi).toInt ≤ (rf_bb (rf_bt N i k) (rf_bt N i (k + 1)) lo).toInt := fun q => z (Int32.le_iff_toInt_le.mpr q)
      rw [ba, bb] at z2
      have eo : ov (tl_e N i k - tl_g N i) (tl_e N i (k + 1) - tl_g N i) hi.toInt lo.toInt = (rf_ba (rf_bt N i k) (rf_bt N i (k + 1)) hi).toInt - (rf_bb (rf_bt N i k) (rf_bt N i (k + 1)) lo).toInt := by
        rw [ba, bb]
        exact if_neg z2
      have es : (rf_ba (rf_bt N i k) (rf_bt N i (k + 1)) hi - rf_bb (rf_bt N i k) (rf_bt N i (k + 1)) lo).toInt = ov (tl_e N i k - tl_g N i) (tl_e N i (k + 1) - tl_g N i) hi.toInt lo.toInt := by
        rw [Int32.toInt_sub, ← eo]
        exact Int.bmod_eq_of_le (by omega) (by omega)
      rw [if_neg z, ← eq, Int64.toInt_add, Int64.toInt_mul, rf_w, rf_w, es, ih, Int.bmod_eq_of_le (n := ov (tl_e N i k - tl_g N i) (tl_e N i (k + 1) - tl_g N i) hi.toInt lo.toInt * (tl_q N i k).toInt) (by omega) (by omega), Int.bmod_eq_of_le (by omega) (by omega)]
end
