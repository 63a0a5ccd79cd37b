/-! heat above a level, without a list of levels -/
theorem zt_add (f g : Nat → Int) : ∀ d i, zt (fun j => f j + g j) d i = zt f d i + zt g d i
  | 0, _ => rfl
  | d + 1, i => by
    show f i + g i + zt (fun j => f j + g j) d (i + 1) = f i + zt f d (i + 1) + (g i + zt g d (i + 1))
    rw [zt_add f g d (i + 1)]
    omega
theorem ov_add {a b hi mid lo : Int} (h1 : mid ≤ hi) (h2 : lo ≤ mid) : ov a b hi lo = ov a b hi mid + ov a b mid lo := by
  have hb : ov_b a b ≤ ov_t a b := by
    unfold ov_b ov_t
    split <;> omega
  unfold ov
  generalize ov_b a b = u at *
  generalize ov_t a b = v at *
  split <;> (try split) <;> (try split) <;> (try split) <;> (try split) <;> (try split) <;> (try split) <;> (try split) <;> (try split) <;> omega
section
variable {N : Nat → Int32} {i M : Nat}
theorem zb_hi (ok : tl_ok N i) {hi lo : Int} (h : ∀ j, j ≤ rf_sp N i → hi ≤ zl N i j) : zb N i hi lo = 0 := by
  refine zt_0 _ _ (fun q _ h2 => ?_)
  have l1 := h q (by omega)
  have l2 := h (q + 1) (by omega)
  have l3 := zl_dn ok (j := q) (by omega)
  have e2 : ov (zl N i q) (zl N i (q + 1)) hi lo = 0 := by
    unfold ov ov_t ov_b
    split <;> (try split) <;> (try split) <;> omega
  show ov (zl N i q) (zl N i (q + 1)) hi lo * zf N i q = 0
  rw [e2, Int.zero_mul]
theorem zb_lo (ok : tl_ok N i) {hi lo : Int} (h : ∀ j, j ≤ rf_sp N i → zl N i j ≤ lo) : zb N i hi lo = 0 := by
  refine zt_0 _ _ (fun q _ h2 => ?_)
  have l1 := h q (by omega)
  have l2 := h (q + 1) (by omega)
  have l3 := zl_dn ok (j := q) (by omega)
  have e2 : ov (zl N i q) (zl N i (q + 1)) hi lo = 0 := by
    unfold ov ov_t ov_b
    split <;> (try split) <;> (try split) <;> omega
  show ov (zl N i q) (zl N i (q + 1)) hi lo * zf N i q = 0
  rw [e2, Int.zero_mul]
theorem zb_add {hi mid lo : Int} (h1 : mid ≤ hi) (h2 : lo ≤ mid) : zb N i hi lo = zb N i hi mid + zb N i mid lo := by
  unfold zb
  rw [← zt_add]
  refine zt_c _ _ (fun j _ _ => ?_)
  show ov _ _ hi lo * _ = _ * _ + _ * _
  rw [ov_add h1 h2, Int.add_mul]
/-- the heat of a stream above x, and that which stands at x -/
def zu (N : Nat → Int32) (i : Nat) (x : Int32) : Int := if N (2 + 24 * i) = 1 then (if x.toInt < zl N i 0 then (N (2 + 24 * i + 5)).toInt else 0) else zb N i 100000 x.toInt
def zs (N : Nat → Int32) (i : Nat) (x : Int32) : Int := if N (2 + 24 * i) = 1 ∧ zl N i 0 = x.toInt then (N (2 + 24 * i + 5)).toInt else 0
def zD (N : Nat → Int32) (w x : Int32) : Nat → Int
  | 0 => 0
  | s + 1 => if rf_isb N s w = true then zD N w x s + (if N (2 + 24 * s + 1) = 1 then zu N s x else -(zu N s x)) else zD N w x s
def zA (N : Nat → Int32) (w x : Int32) : Nat → Int
  | 0 => 0
  | s + 1 => if rf_isb N s w = true then zA N w x s + (if N (2 + 24 * s + 1) = 1 then zs N s x else -(zs N s x)) else zA N w x s
theorem isb_3 {s : Nat} {w : Int32} (z : rf_isb N s w = true) : N (2 + 24 * s) < 3 := by
  unfold rf_isb at z
  rw [decide_eq_true_iff] at z
  exact z.1
theorem tl_am_in (ok : tl_ok N i) (h : N (2 + 24 * i) = 1) : 1 ≤ (N (2 + 24 * i + 5)).toInt ∧ (N (2 + 24 * i + 5)).toInt ≤ 1000000 := by
  obtain ⟨-, -, -, c⟩ := ok
  rcases c with ⟨-, -, c, -⟩ | ⟨⟨a, -⟩ | ⟨a, -⟩, -⟩ | ⟨a, -⟩
  · exact c
  · rw [a] at h
    exact absurd h (by decide)
  · rw [a] at h
    exact absurd h (by decide)
  · rcases a with a | a <;> rw [a] at h <;> exact absurd h (by decide)
theorem zu_in (ok : tl_ok N i) (hg : 1 ≤ (N 1).toInt ∧ (N 1).toInt ≤ 200) (x : Int32) : 0 ≤ zu N i x ∧ zu N i x ≤ 17600000 := by
  unfold zu
  by_cases y : N (2 + 24 * i) = 1
  · have := tl_am_in ok y
    rw [if_pos y]
    split <;> omega
  · rw [if_neg y]
    exact (bw_i ok hg 100000 x).2
theorem zs_in (ok : tl_ok N i) (x : Int32) : 0 ≤ zs N i x ∧ zs N i x ≤ 1000000 := by
  unfold zs
  by_cases y : N (2 + 24 * i) = 1 ∧ zl N i 0 = x.toInt
  · have := tl_am_in ok y.1
    rw [if_pos y]
    omega
  · rw [if_neg y]
    decide
theorem zD_in (k : tk N M) (w x : Int32) : ∀ s, s ≤ M → (-(17600000 * s) ≤ zD N w x s ∧ zD N w x s ≤ 17600000 * s) ∧ (-(1000000 * s) ≤ zA N w x s ∧ zA N w x s ≤ 1000000 * s)
  | 0, _ => by
    show (-(17600000 * ((0 : Nat) : Int)) ≤ 0 ∧ (0 : Int) ≤ 17600000 * ((0 : Nat) : Int)) ∧ (-(1000000 * ((0 : Nat) : Int)) ≤ 0 ∧ (0 : Int) ≤ 1000000 * ((0 : Nat) : Int))
    omega
  | s + 1, hs => by
    obtain ⟨⟨a1, a2⟩, a3, a4⟩ := zD_in k w x s (by omega)
    have b := zu_in (k.2.2 s (by omega)) k.2.1 x
    have c := zs_in (k.2.2 s (by omega)) x
    unfold zD zA
    by_cases z : rf_isb N s w = true
    · rw [if_pos z, if_pos z]
      by_cases y : N (2 + 24 * s + 1) = 1
      · rw [if_pos y, if_pos y]
        omega
      · rw [if_neg y, if_neg y]
        omega
    · rw [if_neg z, if_neg z]
      omega
theorem st_i (k : tk N M) (w x : Int32) : ∀ s, s ≤ M → (rf_st N w x s).toInt = zA N w x s
  | 0, _ => rfl
  | s + 1, hs => by
    have ih := st_i k w x s (by omega)
    have bd := (zD_in k w x s (by omega)).2
    have hM := k.1
    have ok := k.2.2 s (by omega)
    unfold rf_st zA
    by_cases z : rf_isb N s w = true
    · rw [if_pos z]
      by_cases y : N (2 + 24 * s) = 1
      · have n0 : rf_sp N s = 0 := (tl_1 ok (isb_3 z)).mpr y
        have el : (rf_lvl N s (N (2 + 24 * s + 3))).toInt = zl N s 0 := by
          rw [← tl_top0 ok n0]
          exact zl_lv ok k.2.1 (j := 0) (by omega)
        have am := tl_am_in ok y
        by_cases q : zl N s 0 = x.toInt
        · have ez : zs N s x = (N (2 + 24 * s + 5)).toInt := if_pos ⟨y, q⟩
          rw [if_pos (show rf_isb N s w = true ∧ N (2 + 24 * s) = 1 ∧ rf_lvl N s (N (2 + 24 * s + 3)) = x from ⟨z, y, Int32.toInt_inj.mp (el.trans q)⟩), ez]
          by_cases r : N (2 + 24 * s + 1) = 1
          · rw [if_pos r, if_pos r, Int64.toInt_add, ih, rf_w]
            exact Int.bmod_eq_of_le (by omega) (by omega)
          · rw [if_neg r, if_neg r, Int64.toInt_add, ih, rf_w, Int32.toInt_neg, Int.bmod_eq_of_le (n := -(N (2 + 24 * s + 5)).toInt) (by omega) (by omega)]
            exact Int.bmod_eq_of_le (by omega) (by omega)
        · have ez : zs N s x = 0 := if_neg (fun r => q r.2)
          rw [if_neg (show ¬ (rf_isb N s w = true ∧ N (2 + 24 * s) = 1 ∧ rf_lvl N s (N (2 + 24 * s + 3)) = x) from fun r => q (by rw [← el, r.2.2])), ez, ih, Int.neg_zero, ite_self, Int.add_zero]
      · have ez : zs N s x = 0 := if_neg (fun r => y r.1)
        rw [if_neg (show ¬ (rf_isb N s w = true ∧ N (2 + 24 * s) = 1 ∧ rf_lvl N s (N (2 + 24 * s + 3)) = x) from fun r => y r.2.1), ez, ih, Int.neg_zero, ite_self, Int.add_zero]
    · rw [if_neg (fun r => z r.1), if_neg z]
      exact ih
/-- nothing is above a level above all levels -/
theorem zD_top (k : tk N M) {w x : Int32} (h : ∀ y, y ∈ lv_w N w M → y.toInt ≤ x.toInt) : ∀ s, s ≤ M → zD N w x s = 0
  | 0, _ => rfl
  | s + 1, hs => by
    have ih := zD_top k h s (by omega)
    have ok := k.2.2 s (by omega)
    unfold zD
    by_cases z : rf_isb N s w = true
    · have hj : ∀ j, j ≤ rf_sp N s → zl N s j ≤ x.toInt := by
        intro j hj
        obtain ⟨y, hy, e⟩ := lv_s_z ok k.2.1 hj
        rw [← e]
        exact h y ((lv_w_mem M).mpr ⟨s, by omega, z, hy⟩)
      have e : zu N s x = 0 := by
        unfold zu
        by_cases y : N (2 + 24 * s) = 1
        · rw [if_pos y, if_neg]
          have := hj 0 (by omega)
          omega
        · rw [if_neg y]
          exact zb_lo ok hj
      rw [if_pos z, ih, e, Int.neg_zero, ite_self]
      rfl
    · rw [if_neg z]
      exact ih
/-- nothing stands where no level is -/
theorem zA_off (k : tk N M) {w x : Int32} (h : ∀ y, y ∈ lv_w N w M → ¬ y.toInt = x.toInt) : ∀ s, s ≤ M → zA N w x s = 0
  | 0, _ => rfl
  | s + 1, hs => by
    have ih := zA_off k h s (by omega)
    have ok := k.2.2 s (by omega)
    unfold zA
    by_cases z : rf_isb N s w = true
    · have e : zs N s x = 0 := by
        unfold zs
        refine if_neg (fun q => ?_)
        obtain ⟨y, hy, e⟩ := lv_s_z ok k.2.1 (j := 0) (by omega)
        exact h y ((lv_w_mem M).mpr ⟨s, by omega, z, hy⟩) (e.trans q.2)
      rw [if_pos z, ih, e, Int.neg_zero, ite_self]
      rfl
    · rw [if_neg z]
      exact ih
/-- from one level down to another with none between -/
theorem zD_step (k : tk N M) {w hi lo : Int32} (hl : lo.toInt < hi.toInt) (h2 : hi.toInt ≤ 100000) (hm : ∀ y, y ∈ lv_w N w M → hi.toInt ≤ y.toInt ∨ y.toInt ≤ lo.toInt) : ∀ s, s ≤ M → zD N w lo s = zD N w hi s + zA N w hi s + la_I N w hi.toInt lo.toInt s
  | 0, _ => rfl
  | s + 1, hs => by
    have ih := zD_step k hl h2 hm s (by omega)
    have ok := k.2.2 s (by omega)
    unfold zD zA la_I
    by_cases z : rf_isb N s w = true
    · have hj : ∀ j, j ≤ rf_sp N s → hi.toInt ≤ zl N s j ∨ zl N s j ≤ lo.toInt := by
        intro j hj
        obtain ⟨y, hy, e⟩ := lv_s_z ok k.2.1 hj
        rw [← e]
        exact hm y ((lv_w_mem M).mpr ⟨s, by omega, z, hy⟩)
      rw [if_pos z, if_pos z, if_pos z, ih]
      by_cases y : N (2 + 24 * s) = 1
      · rw [if_neg (show ¬ (rf_isb N s w = true ∧ ¬ N (2 + 24 * s) = 1) from fun q => q.2 y)]
        have e : zu N s lo = zu N s hi + zs N s hi := by
          have := hj 0 (by omega)
          have e1 : zu N s lo = if lo.toInt < zl N s 0 then (N (2 + 24 * s + 5)).toInt else 0 := if_pos y
          have e2 : zu N s hi = if hi.toInt < zl N s 0 then (N (2 + 24 * s + 5)).toInt else 0 := if_pos y
          rw [e1, e2]
          by_cases q : zl N s 0 = hi.toInt
          · have e3 : zs N s hi = (N (2 + 24 * s + 5)).toInt := if_pos ⟨y, q⟩
            rw [e3, if_pos (show lo.toInt < zl N s 0 by omega), if_neg (show ¬ hi.toInt < zl N s 0 by omega), Int.zero_add]
          · have e3 : zs N s hi = 0 := if_neg (fun r => q r.2)
            rw [e3, Int.add_zero]
            by_cases r : hi.toInt < zl N s 0
            · rw [if_pos r, if_pos (show lo.toInt < zl N s 0 by omega)]
            · rw [if_neg r, if_neg (show ¬ lo.toInt < zl N s 0 by omega)]
        rw [e]
        split <;> omega
      · rw [if_pos (show rf_isb N s w = true ∧ ¬ N (2 + 24 * s) = 1 from ⟨z, y⟩)]
        have e : zu N s lo = zu N s hi + zb N s hi.toInt lo.toInt := by
          unfold zu
          rw [if_neg y, if_neg y]
          exact zb_add h2 (by omega)
        have e2 : zs N s hi = 0 := by
          unfold zs
          exact if_neg (fun q => y q.1)
        rw [e, e2]
        split <;> omega
    · rw [if_neg z, if_neg z, if_neg z, if_neg (fun q => z q.1)]
      exact ih
/-- the flow below a level -/
def zF (N : Nat → Int32) (w hi : Int32) : Nat → Int
  | 0 => 0
  | s + 1 => if rf_isb N s w = true ∧ ¬ N (2 + 24 * s) = 1 then zF N w hi s + (if N (2 + 24 * s + 1) = 1 then (sv_fb (tl_S N s) (N 1) hi).toInt else -(sv_fb (tl_S N s) (N 1) hi).toInt) else zF N w hi s
theorem la_F (k : tk N M) {w hi lo : Int32} (hl : lo.toInt < hi.toInt) (hm : ∀ y, y ∈ lv_w N w M → hi.toInt ≤ y.toInt ∨ y.toInt ≤ lo.toInt) : ∀ s, s ≤ M → la_I N w hi.toInt lo.toInt s = zF N w hi s * (hi.toInt - lo.toInt)
  | 0, _ => by
    show 0 = 0 * _
    rw [Int.zero_mul]
  | s + 1, hs => by
    have ih := la_F k hl hm s (by omega)
    have ok := k.2.2 s (by omega)
    unfold la_I zF
    by_cases z : rf_isb N s w = true ∧ ¬ N (2 + 24 * s) = 1
    · have hj : ∀ j, j ≤ rf_sp N s → hi.toInt ≤ zl N s j ∨ zl N s j ≤ lo.toInt := by
        intro j hj
        obtain ⟨y, hy, e⟩ := lv_s_z ok k.2.1 hj
        rw [← e]
        exact hm y ((lv_w_mem M).mpr ⟨s, by omega, z.1, hy⟩)
      have e := fb_zb ok k.2.1 hl hj
      rw [if_pos z, if_pos z, ih, ← e, Int.add_mul]
      by_cases y : N (2 + 24 * s + 1) = 1
      · rw [if_pos y, if_pos y]
      · rw [if_neg y, if_neg y, Int.neg_mul]
    · rw [if_neg z, if_neg z]
      exact ih
theorem la_0 (k : tk N M) {w hi : Int32} {lo : Int} (hm : ∀ y, y ∈ lv_w N w M → hi.toInt ≤ y.toInt) : ∀ s, s ≤ M → la_I N w hi.toInt lo s = 0
  | 0, _ => rfl
  | s + 1, hs => by
    have ih := la_0 k (lo := lo) hm s (by omega)
    have ok := k.2.2 s (by omega)
    unfold la_I
    by_cases z : rf_isb N s w = true ∧ ¬ N (2 + 24 * s) = 1
    · have hj : ∀ j, j ≤ rf_sp N s → hi.toInt ≤ zl N s j := by
        intro j hj
        obtain ⟨y, hy, e⟩ := lv_s_z ok k.2.1 hj
        rw [← e]
        exact hm y ((lv_w_mem M).mpr ⟨s, by omega, z.1, hy⟩)
      rw [if_pos z, ih, zb_hi ok hj, Int.neg_zero, ite_self]
      rfl
    · rw [if_neg z]
      exact ih
end
