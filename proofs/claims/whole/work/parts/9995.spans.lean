/-! a stream's spans from the hotter end -/
def zt (f : Nat → Int) : Nat → Nat → Int
  | 0, _ => 0
  | d + 1, i => f i + zt f d (i + 1)
theorem zt_end (f : Nat → Int) : ∀ d i, zt f (d + 1) i = zt f d i + f (i + d)
  | 0, i => by
    show f i + 0 = 0 + f (i + 0)
    rw [Int.add_zero, Int.zero_add, Nat.add_zero]
  | d + 1, i => by
    have ih := zt_end f d (i + 1)
    show f i + zt f (d + 1) (i + 1) = f i + zt f d (i + 1) + f (i + (d + 1))
    rw [ih, show i + 1 + d = i + (d + 1) by omega, Int.add_assoc]
theorem zt_sh (f : Nat → Int) : ∀ d i, zt f d (i + 1) = zt (fun j => f (j + 1)) d i
  | 0, _ => rfl
  | d + 1, i => by
    show f (i + 1) + zt f d (i + 1 + 1) = f (i + 1) + zt (fun j => f (j + 1)) d (i + 1)
    rw [zt_sh f d (i + 1)]
theorem zt_c {f g : Nat → Int} : ∀ d i, (∀ j, i ≤ j → j < i + d → f j = g j) → zt f d i = zt g d i
  | 0, _, _ => rfl
  | d + 1, i, h => by
    show f i + zt f d (i + 1) = g i + zt g d (i + 1)
    rw [h i (by omega) (by omega), zt_c d (i + 1) (fun j h1 h2 => h j (by omega) (by omega))]
theorem zt_0 {f : Nat → Int} : ∀ d i, (∀ j, i ≤ j → j < i + d → f j = 0) → zt f d i = 0
  | 0, _, _ => rfl
  | d + 1, i, h => by
    show f i + zt f d (i + 1) = 0
    rw [h i (by omega) (by omega), zt_0 d (i + 1) (fun j h1 h2 => h j (by omega) (by omega))]
    rfl
theorem zt_rev (f : Nat → Int) : ∀ n, zt f n 0 = zt (fun j => f (n - 1 - j)) n 0
  | 0 => rfl
  | n + 1 => by
    rw [zt_end, Nat.zero_add, zt_rev f n]
    show _ = f (n + 1 - 1 - 0) + zt (fun j => f (n + 1 - 1 - j)) n (0 + 1)
    rw [zt_sh, zt_c (f := fun j => f (n + 1 - 1 - (j + 1))) (g := fun j => f (n - 1 - j)) n 0 (fun j _ _ => by show f _ = f _; rw [show n + 1 - 1 - (j + 1) = n - 1 - j by omega]), show n + 1 - 1 - 0 = n by omega, Int.add_comm]
theorem ov_sym (a b hi lo : Int) : ov a b hi lo = ov b a hi lo := by
  have e1 : ov_t a b = ov_t b a := by
    unfold ov_t
    split <;> split <;> omega
  have e2 : ov_b a b = ov_b b a := by
    unfold ov_b
    split <;> split <;> omega
  unfold ov
  rw [e1, e2]
def zl (N : Nat → Int32) (i j : Nat) : Int := tl_e N i (if N (2 + 24 * i + 1) = 1 then j else rf_sp N i - j) - tl_g N i
def zf (N : Nat → Int32) (i j : Nat) : Int := (sv_ff (tl_S N i) j).toInt
def zb (N : Nat → Int32) (i : Nat) (hi lo : Int) : Int := zt (fun j => ov (zl N i j) (zl N i (j + 1)) hi lo * zf N i j) (rf_sp N i) 0
section
variable {N : Nat → Int32} {i : Nat}
theorem tl_lvb : ∀ k, rf_lvl N i (rf_end N i k) = rf_bt N i k
  | 0 => rfl
  | k + 1 => by
    have ih := tl_lvb k
    show rf_lvl N i (rf_end N i k + (if N (2 + 24 * i + 1) = 1 then -(N (2 + 24 * i + (6 + 2 * k))) else N (2 + 24 * i + (6 + 2 * k)))) = rf_bt N i k + (if N (2 + 24 * i + 1) = 1 then -(N (2 + 24 * i + (6 + 2 * k))) else N (2 + 24 * i + (6 + 2 * k)))
    rw [← ih]
    generalize rf_end N i k = e
    unfold rf_lvl
    by_cases z : N (2 + 24 * i + 1) = 1
    · rw [if_pos z, if_pos z, if_pos z, Int32.sub_eq_add_neg, Int32.sub_eq_add_neg, Int32.add_assoc, Int32.add_assoc, Int32.add_comm (-N 1)]
    · rw [if_neg z, if_neg z, if_neg z]
theorem tl_g_in (hg : 1 ≤ (N 1).toInt ∧ (N 1).toInt ≤ 200) : 0 ≤ tl_g N i ∧ tl_g N i ≤ 200 := by
  unfold tl_g
  split <;> omega
theorem zl_lv (ok : tl_ok N i) (hg : 1 ≤ (N 1).toInt ∧ (N 1).toInt ≤ 200) {j : Nat} (hj : j ≤ rf_sp N i) : (sv_lv (tl_S N i) (N 1) j).toInt = zl N i j := by
  rw [tl_lv ok j hj, tl_lvb, tl_bt ok hg _ (by split <;> omega)]
  rfl
theorem zl_in (ok : tl_ok N i) (hg : 1 ≤ (N 1).toInt ∧ (N 1).toInt ≤ 200) {j : Nat} (hj : j ≤ rf_sp N i) : -200 ≤ zl N i j ∧ zl N i j ≤ 2000 := by
  have h1 := tl_e_in ok (if N (2 + 24 * i + 1) = 1 then j else rf_sp N i - j) (by split <;> omega)
  have h2 := tl_g_in (i := i) hg
  unfold zl
  omega
theorem zl_dn (ok : tl_ok N i) {j : Nat} (hj : j < rf_sp N i) : zl N i (j + 1) < zl N i j := by
  unfold zl
  by_cases z : N (2 + 24 * i + 1) = 1
  · have h1 := (tl_d_in ok hj).1
    rw [if_pos z, if_pos z]
    have e : tl_e N i (j + 1) = tl_e N i j - (tl_d N i j).toInt := by
      show (if N (2 + 24 * i + 1) = 1 then tl_e N i j - (tl_d N i j).toInt else tl_e N i j + (tl_d N i j).toInt) = _
      rw [if_pos z]
    omega
  · have h1 := (tl_d_in ok (j := rf_sp N i - (j + 1)) (by omega)).1
    rw [if_neg z, if_neg z]
    have e : tl_e N i (rf_sp N i - j) = tl_e N i (rf_sp N i - (j + 1)) + (tl_d N i (rf_sp N i - (j + 1))).toInt := by
      rw [show rf_sp N i - j = rf_sp N i - (j + 1) + 1 by omega]
      show (if N (2 + 24 * i + 1) = 1 then _ else _) = _
      rw [if_neg z]
    omega
theorem zl_le (ok : tl_ok N i) : ∀ d j, j + d ≤ rf_sp N i → zl N i (j + d) ≤ zl N i j
  | 0, _, _ => Int.le_refl _
  | d + 1, j, h => by
    have h1 := zl_le ok d j (by omega)
    have h2 := zl_dn ok (j := j + d) (by omega)
    rw [show j + (d + 1) = j + d + 1 by omega]
    omega
theorem zf_q (ok : tl_ok N i) {j : Nat} (hj : j < rf_sp N i) : zf N i j = (tl_q N i (if N (2 + 24 * i + 1) = 1 then j else rf_sp N i - 1 - j)).toInt := by
  show (sn_dn (N (2 + 24 * i + 1)) (rf_sp N i) (tl_q N i) (rf_sp N i) j).toInt = _
  unfold sn_dn
  rcases ok.1 with z | z
  · have z1 : ¬ N (2 + 24 * i + 1) = 1 := by rw [z]; decide
    rw [if_pos z, if_neg z1, if_pos (by omega)]
  · have z1 : ¬ N (2 + 24 * i + 1) = 0 := by rw [z]; decide
    rw [if_pos z, if_neg z1, if_pos (by omega)]
theorem zf_in (ok : tl_ok N i) {j : Nat} (hj : j < rf_sp N i) : 1 ≤ zf N i j ∧ zf N i j ≤ 1000 := by
  rw [zf_q ok hj]
  exact (tl_d_in ok (by split <;> omega)).2
theorem bw_zt (N : Nat → Int32) (i : Nat) (hi lo : Int) : ∀ k, bw_I N i hi lo k = zt (fun k => ov (tl_e N i k - tl_g N i) (tl_e N i (k + 1) - tl_g N i) hi lo * (tl_q N i k).toInt) k 0
  | 0 => rfl
  | k + 1 => by
    rw [zt_end, ← bw_zt N i hi lo k, Nat.zero_add]
    rfl
theorem bw_zb (ok : tl_ok N i) (hi lo : Int) : bw_I N i hi lo (rf_sp N i) = zb N i hi lo := by
  rw [bw_zt]
  unfold zb
  by_cases z : N (2 + 24 * i + 1) = 1
  · refine zt_c _ _ (fun j _ hj => ?_)
    show _ = ov (zl N i j) (zl N i (j + 1)) hi lo * zf N i j
    rw [zf_q ok (by omega)]
    unfold zl
    rw [if_pos z, if_pos z, if_pos z]
  · rw [zt_rev]
    refine zt_c _ _ (fun j _ hj => ?_)
    show ov (tl_e N i (rf_sp N i - 1 - j) - tl_g N i) (tl_e N i (rf_sp N i - 1 - j + 1) - tl_g N i) hi lo * (tl_q N i (rf_sp N i - 1 - j)).toInt = ov (zl N i j) (zl N i (j + 1)) hi lo * zf N i j
    rw [zf_q ok (by omega), ov_sym]
    unfold zl
    rw [if_neg z, if_neg z, if_neg z, show rf_sp N i - 1 - j + 1 = rf_sp N i - j by omega, show rf_sp N i - 1 - j = rf_sp N i - (j + 1) by omega]
/-- between neighbouring levels one span at most is open -/
theorem fl_zb (ok : tl_ok N i) (hg : 1 ≤ (N 1).toInt ∧ (N 1).toInt ≤ 200) {hi lo : Int32} (hl : lo.toInt < hi.toInt) (hm : ∀ j, j ≤ rf_sp N i → hi.toInt ≤ zl N i j ∨ zl N i j ≤ lo.toInt) : ∀ d j, j + d = rf_sp N i → hi.toInt ≤ zl N i j → (sv_fl (tl_S N i) (N 1) hi d j).toInt * (hi.toInt - lo.toInt) = zt (fun j => ov (zl N i j) (zl N i (j + 1)) hi.toInt lo.toInt * zf N i j) d j
  | 0, _, _, _ => by
    show (0 : Int32).toInt * _ = 0
    rw [show (0 : Int32).toInt = 0 from rfl, Int.zero_mul]
  | d + 1, j, hj, h => by
    have hd := zl_dn ok (j := j) (by omega)
    have elv := zl_lv ok hg (j := j + 1) (by omega)
    show (if hi ≤ sv_lv (tl_S N i) (N 1) (j + 1) then sv_fl (tl_S N i) (N 1) hi d (j + 1) else sv_ff (tl_S N i) j).toInt * _ = ov (zl N i j) (zl N i (j + 1)) hi.toInt lo.toInt * zf N i j + zt (fun j => ov (zl N i j) (zl N i (j + 1)) hi.toInt lo.toInt * zf N i j) d (j + 1)
    by_cases z : hi ≤ sv_lv (tl_S N i) (N 1) (j + 1)
    · have z2 := Int32.le_iff_toInt_le.mp z
      rw [elv] at z2
      have e0 : ov (zl N i j) (zl N i (j + 1)) hi.toInt lo.toInt = 0 := by
        unfold ov ov_t ov_b
        split <;> (try split) <;> (try split) <;> omega
      rw [if_pos z, e0, Int.zero_mul, Int.zero_add]
      exact fl_zb ok hg hl hm d (j + 1) (by omega) z2
    · have z2 : ¬ hi.toInt ≤ zl N i (j + 1) := fun q => z (Int32.le_iff_toInt_le.mpr (by rw [elv]; exact q))
      have z3 : zl N i (j + 1) ≤ lo.toInt := (hm (j + 1) (by omega)).elim (fun q => absurd q z2) id
      have e0 : ov (zl N i j) (zl N i (j + 1)) hi.toInt lo.toInt = hi.toInt - lo.toInt := by
        unfold ov ov_t ov_b
        split <;> (try split) <;> (try split) <;> omega
      have e1 : zt (fun j => ov (zl N i j) (zl N i (j + 1)) hi.toInt lo.toInt * zf N i j) d (j + 1) = 0 := by
        refine zt_0 _ _ (fun q h1 h2 => ?_)
        have l1 := zl_le ok (q - (j + 1)) (j + 1) (by omega)
        rw [show j + 1 + (q - (j + 1)) = q by omega] at l1
        have l2 := zl_dn ok (j := q) (by omega)
        have e2 : ov (zl N i q) (zl N i (q + 1)) hi.toInt lo.toInt = 0 := by
          unfold ov ov_t ov_b
          split <;> (try split) <;> (try split) <;> omega
        show ov (zl N i q) (zl N i (q + 1)) hi.toInt lo.toInt * zf N i q = 0
        rw [e2, Int.zero_mul]
      rw [if_neg z, e0, e1, Int.add_zero, Int.mul_comm]
      rfl
theorem fb_zb (ok : tl_ok N i) (hg : 1 ≤ (N 1).toInt ∧ (N 1).toInt ≤ 200) {hi lo : Int32} (hl : lo.toInt < hi.toInt) (hm : ∀ j, j ≤ rf_sp N i → hi.toInt ≤ zl N i j ∨ zl N i j ≤ lo.toInt) : (sv_fb (tl_S N i) (N 1) hi).toInt * (hi.toInt - lo.toInt) = zb N i hi.toInt lo.toInt := by
  have e0 : (sv_top (tl_S N i) (N 1)).toInt = zl N i 0 := zl_lv ok hg (j := 0) (by omega)
  unfold sv_fb
  by_cases z : hi ≤ sv_top (tl_S N i) (N 1)
  · rw [if_pos z]
    exact fl_zb ok hg hl hm (rf_sp N i) 0 (by omega) (by rw [← e0]; exact Int32.le_iff_toInt_le.mp z)
  · have z2 : ¬ hi.toInt ≤ zl N i 0 := fun q => z (Int32.le_iff_toInt_le.mpr (by rw [e0]; exact q))
    have z3 : zl N i 0 ≤ lo.toInt := (hm 0 (by omega)).elim (fun q => absurd q z2) id
    rw [if_neg z, show (0 : Int32).toInt = 0 from rfl, Int.zero_mul]
    symm
    refine zt_0 _ _ (fun q h1 h2 => ?_)
    have l1 := zl_le ok q 0 (by omega)
    rw [Nat.zero_add] at l1
    have l2 := zl_dn ok (j := q) (by omega)
    have e2 : ov (zl N i q) (zl N i (q + 1)) hi.toInt lo.toInt = 0 := by
      unfold ov ov_t ov_b
      split <;> (try split) <;> (try split) <;> omega
    show ov (zl N i q) (zl N i (q + 1)) hi.toInt lo.toInt * zf N i q = 0
    rw [e2, Int.zero_mul]
theorem sv_fl_in (ok : tl_ok N i) (gap lv : Int32) : ∀ d j, j + d = rf_sp N i → 0 ≤ (sv_fl (tl_S N i) gap lv d j).toInt ∧ (sv_fl (tl_S N i) gap lv d j).toInt ≤ 1000
  | 0, _, _ => by
    show 0 ≤ (0 : Int32).toInt ∧ (0 : Int32).toInt ≤ 1000
    decide
  | d + 1, j, hj => by
    have h1 := zf_in ok (j := j) (by omega)
    unfold zf at h1
    unfold sv_fl
    split
    · exact sv_fl_in ok gap lv d (j + 1) (by omega)
    · omega
theorem sv_fb_in (ok : tl_ok N i) (gap lv : Int32) : 0 ≤ (sv_fb (tl_S N i) gap lv).toInt ∧ (sv_fb (tl_S N i) gap lv).toInt ≤ 1000 := by
  unfold sv_fb
  split
  · exact sv_fl_in ok gap lv _ 0 (Nat.zero_add _)
  · decide
end
