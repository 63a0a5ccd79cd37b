/-! the heat above a level, both ways; call: line -/
section
variable {N : Nat → Int32} {i : Nat}
theorem zd (ok : tl_ok N i) {j : Nat} (hj : j < rf_sp N i) : (sv_fd (tl_S N i) j).toInt = zl N i j - zl N i (j + 1) := by
  show (sn_dn (N (2 + 24 * i + 1)) (rf_sp N i) (tl_d N i) (rf_sp N i) j).toInt = _
  unfold sn_dn zl
  rcases ok.1 with z | z
  · have z1 : ¬ N (2 + 24 * i + 1) = 1 := by rw [z]; decide
    rw [if_pos z, if_neg z1, if_neg z1, if_pos (by omega)]
    have e : tl_e N i (rf_sp N i - j) = tl_e N i (rf_sp N i - (j + 1)) + (tl_d N i (rf_sp N i - (j + 1))).toInt := by
      rw [show rf_sp N i - j = rf_sp N i - (j + 1) + 1 by omega]
      show (if N (2 + 24 * i + 1) = 1 then _ else _) = _
      rw [if_neg z1]
    rw [e, show rf_sp N i - 1 - j = rf_sp N i - (j + 1) by omega]
    omega
  · have z1 : ¬ N (2 + 24 * i + 1) = 0 := by rw [z]; decide
    rw [if_pos z, if_pos z, if_neg z1, if_pos (by omega)]
    have e : tl_e N i (j + 1) = tl_e N i j - (tl_d N i j).toInt := by
      show (if N (2 + 24 * i + 1) = 1 then tl_e N i j - (tl_d N i j).toInt else tl_e N i j + (tl_d N i j).toInt) = _
      rw [if_pos z]
    omega
theorem ha_zt (ok : tl_ok N i) (hg : 1 ≤ (N 1).toInt ∧ (N 1).toInt ≤ 200) (lv : Int32) : ∀ d j (t sum : Int64), j + d = rf_sp N i → t.toInt = zl N i j → 0 ≤ sum.toInt ∧ sum.toInt ≤ 2200000 * j → (sv_ha (tl_S N i) lv.toInt64 d j t sum).toInt = sum.toInt + zt (fun j => ov (zl N i j) (zl N i (j + 1)) 100000 lv.toInt * zf N i j) d j
  | 0, _, _, _, _, _, _ => by
    show _ = _ + 0
    rw [Int.add_zero]
    rfl
  | d + 1, j, t, sum, hj, ht, hs => by
    have h8 := ok.2.2.1.2
    have ed := zd ok (j := j) (by omega)
    have b1 := zl_in ok hg (j := j) (by omega)
    have b2 := zl_in ok hg (j := j + 1) (by omega)
    have b3 := zf_in ok (j := j) (by omega)
    have b4 := zl_dn ok (j := j) (by omega)
    show (if lv.toInt64 < t then sv_ha (tl_S N i) lv.toInt64 d (j + 1) (t - (sv_fd (tl_S N i) j).toInt64) (sum + (sv_ff (tl_S N i) j).toInt64 * (t - (if t - (sv_fd (tl_S N i) j).toInt64 < lv.toInt64 then lv.toInt64 else t - (sv_fd (tl_S N i) j).toInt64))) else sum).toInt = sum.toInt + (ov (zl N i j) (zl N i (j + 1)) 100000 lv.toInt * zf N i j + zt (fun j => ov (zl N i j) (zl N i (j + 1)) 100000 lv.toInt * zf N i j) d (j + 1))
    by_cases z : lv.toInt64 < t
    · have z2 := Int64.lt_iff_toInt_lt.mp z
      rw [rf_w, ht] at z2
      have et : (t - (sv_fd (tl_S N i) j).toInt64).toInt = zl N i (j + 1) := by
        rw [Int64.toInt_sub, rf_w, ht, ed, Int.bmod_eq_of_le (by omega) (by omega)]
        omega
      have em : (if t - (sv_fd (tl_S N i) j).toInt64 < lv.toInt64 then lv.toInt64 else t - (sv_fd (tl_S N i) j).toInt64).toInt = if zl N i (j + 1) < lv.toInt then lv.toInt else zl N i (j + 1) := by
        by_cases y : t - (sv_fd (tl_S N i) j).toInt64 < lv.toInt64
        · have y2 := Int64.lt_iff_toInt_lt.mp y
          rw [rf_w, et] at y2
          rw [if_pos y, if_pos y2, rf_w]
        · have y2 : ¬ zl N i (j + 1) < lv.toInt := fun q => y (Int64.lt_iff_toInt_lt.mpr (by rw [rf_w, et]; exact q))
          rw [if_neg y, if_neg y2, et]
      have eo : (t - (if t - (sv_fd (tl_S N i) j).toInt64 < lv.toInt64 then lv.toInt64 else t - (sv_fd (tl_S N i) j).toInt64)).toInt = ov (zl N i j) (zl N i (j + 1)) 100000 lv.toInt := by
        rw [Int64.toInt_sub, em, ht]
        unfold ov ov_t ov_b
        split <;> rw [Int.bmod_eq_of_le (by omega) (by omega)] <;> split <;> (try split) <;> (try split) <;> omega
      have oi := ov_in (a := zl N i j) (b := zl N i (j + 1)) (hi := 100000) (lo := lv.toInt) b1 b2
      have mb : 0 ≤ ov (zl N i j) (zl N i (j + 1)) 100000 lv.toInt * zf N i j ∧ ov (zl N i j) (zl N i (j + 1)) 100000 lv.toInt * zf N i j ≤ 2200000 := by
        constructor
        · exact Int.mul_nonneg oi.1 (by omega)
        · exact Int.le_trans (Int.mul_le_mul oi.2 b3.2 (by omega) (by omega)) (by decide)
      have es : (sum + (sv_ff (tl_S N i) j).toInt64 * (t - (if t - (sv_fd (tl_S N i) j).toInt64 < lv.toInt64 then lv.toInt64 else t - (sv_fd (tl_S N i) j).toInt64))).toInt = sum.toInt + ov (zl N i j) (zl N i (j + 1)) 100000 lv.toInt * zf N i j := by
        rw [Int64.toInt_add, Int64.toInt_mul, eo, rf_w]
        show Int.bmod (sum.toInt + Int.bmod (zf N i j * _) _) _ = _
        rw [Int.mul_comm, Int.bmod_eq_of_le (n := ov (zl N i j) (zl N i (j + 1)) 100000 lv.toInt * zf N i j) (by omega) (by omega), Int.bmod_eq_of_le (by omega) (by omega)]
      rw [if_pos z, ha_zt ok hg lv d (j + 1) _ _ (by omega) et (by rw [es]; omega), es, Int.add_assoc]
    · have z2 : ¬ lv.toInt < zl N i j := fun q => z (Int64.lt_iff_toInt_lt.mpr (by rw [rf_w, ht]; exact q))
      have e1 : zt (fun j => ov (zl N i j) (zl N i (j + 1)) 100000 lv.toInt * zf N i j) (d + 1) j = 0 := by
        refine zt_0 _ _ (fun q h1 h2 => ?_)
        have l1 := zl_le ok (q - j) j (by omega)
        rw [show j + (q - j) = q by omega] at l1
        have l2 := zl_dn ok (j := q) (by omega)
        have e2 : ov (zl N i q) (zl N i (q + 1)) 100000 lv.toInt = 0 := by
          unfold ov ov_t ov_b
          split <;> (try split) <;> (try split) <;> omega
        show ov (zl N i q) (zl N i (q + 1)) 100000 lv.toInt * zf N i q = 0
        rw [e2, Int.zero_mul]
      rw [if_neg z]
      have e3 : ov (zl N i j) (zl N i (j + 1)) 100000 lv.toInt * zf N i j + zt (fun j => ov (zl N i j) (zl N i (j + 1)) 100000 lv.toInt * zf N i j) d (j + 1) = 0 := e1
      rw [e3, Int.add_zero]
theorem hb_bw (ok : tl_ok N i) (hg : 1 ≤ (N 1).toInt ∧ (N 1).toInt ≤ 200) (lv fl : Int32) (hn : ¬ rf_sp N i = 0) : sv_hb (tl_S N i) (N 1) lv fl = rf_bw N i 100000 lv (rf_sp N i) := by
  unfold sv_hb
  rw [show sv_n (tl_S N i) = rf_sp N i from rfl, if_neg hn]
  apply Int64.toInt_inj.mp
  rw [(bw_i ok hg 100000 lv).1, ha_zt ok hg lv (rf_sp N i) 0 _ 0 (by omega) (by rw [rf_w]; exact zl_lv ok hg (j := 0) (by omega)) (by decide)]
  show 0 + _ = zb N i 100000 lv.toInt
  rw [Int.zero_add]
  rfl
theorem hb_st (ok : tl_ok N i) (h1 : N (2 + 24 * i) = 1) (lv fl : Int32) : sv_hb (tl_S N i) (N 1) lv fl = if lv.toInt < (rf_lvl N i (N (2 + 24 * i + 3))).toInt ∨ (¬ fl = 0 ∧ rf_lvl N i (N (2 + 24 * i + 3)) = lv) then (N (2 + 24 * i + 5)).toInt64 else 0 := by
  have k3 : N (2 + 24 * i) < 3 := by rw [h1]; decide
  have n0 : rf_sp N i = 0 := (tl_1 ok k3).mpr h1
  have ea : sv_am (tl_S N i) = N (2 + 24 * i + 5) := by
    rw [tl_am ok, if_pos k3, if_pos h1]
  unfold sv_hb
  rw [show sv_n (tl_S N i) = rf_sp N i from rfl, if_pos n0, tl_top0 ok n0, ea]
  have e1 : lv.toInt64 < (rf_lvl N i (N (2 + 24 * i + 3))).toInt64 ↔ lv.toInt < (rf_lvl N i (N (2 + 24 * i + 3))).toInt := by
    rw [Int64.lt_iff_toInt_lt, rf_w, rf_w]
  have e2 : (rf_lvl N i (N (2 + 24 * i + 3))).toInt64 = lv.toInt64 ↔ rf_lvl N i (N (2 + 24 * i + 3)) = lv := by
    rw [← Int64.toInt_inj, rf_w, rf_w, Int32.toInt_inj]
  by_cases z : lv.toInt < (rf_lvl N i (N (2 + 24 * i + 3))).toInt ∨ (¬ fl = 0 ∧ rf_lvl N i (N (2 + 24 * i + 3)) = lv)
  · rw [if_pos z, if_pos (z.elim (fun q => Or.inl (e1.mpr q)) (fun q => Or.inr ⟨q.1, e2.mpr q.2⟩))]
  · rw [if_neg z, if_neg (fun q => z (q.elim (fun q => Or.inl (e1.mp q)) (fun q => Or.inr ⟨q.1, e2.mp q.2⟩)))]
theorem hb_ab (ok : tl_ok N i) (hg : 1 ≤ (N 1).toInt ∧ (N 1).toInt ≤ 200) (k3 : N (2 + 24 * i) < 3) (lv : Int32) : sv_hb (tl_S N i) (N 1) lv 1 = rf_ab N i lv := by
  unfold rf_ab
  by_cases y : N (2 + 24 * i) = 1
  · rw [if_pos y, hb_st ok y]
    by_cases z : rf_lvl N i (N (2 + 24 * i + 3)) < lv
    · have z2 := (lv_i _ _).mp z
      rw [if_pos z, if_neg (fun q => q.elim (fun q => by omega) (fun q => by have := congrArg Int32.toInt q.2; omega))]
    · rw [if_neg (show ¬ rf_lvl N i (N (2 + 24 * i + 3)) < lv from z)]
      rw [lv_i] at z
      by_cases x : (rf_lvl N i (N (2 + 24 * i + 3))).toInt = lv.toInt
      · rw [if_pos (Or.inr ⟨by decide, Int32.toInt_inj.mp x⟩)]
      · rw [if_pos (Or.inl (by omega))]
  · rw [if_neg y]
    exact hb_bw ok hg lv 1 (fun q => y ((tl_1 ok k3).mp q))
theorem tl_ln {T : tv} (t : tls T N) (w b lv : Int32) : ∀ s, s ≤ T.2.1 → tw_ln T w b lv s = rf_ln N w b lv s
  | 0, _ => rfl
  | s + 1, hs => by
    have ih := tl_ln t w b lv s (by omega)
    obtain ⟨e, ok⟩ := t.2.1 s (by omega)
    unfold tw_ln rf_ln
    rw [ih, e, ← t.1.2.2.1]
    have eh : (if N (2 + 24 * s + 1) = 1 then (1 : Int32) else 0) = sv_hot (tl_S N s) := by
      show _ = N (2 + 24 * s + 1)
      rcases ok.1 with z | z
      · rw [z]
        rfl
      · rw [z]
        rfl
    rw [eh]
    by_cases z : rf_isb N s w = true
    · have zs := (tl_is ok w).mpr z
      have k3 : N (2 + 24 * s) < 3 := by
        unfold rf_isb at z
        rw [decide_eq_true_iff] at z
        exact z.1
      by_cases y : sv_hot (tl_S N s) = b
      · rw [if_pos (show sv_is (tl_S N s) w ∧ sv_hot (tl_S N s) = b from ⟨zs, y⟩), if_pos ⟨z, y⟩, hb_ab ok t.k.2.1 k3]
      · rw [if_neg (fun q => y q.2), if_neg (fun q => y q.2)]
    · rw [if_neg (fun q => z ((tl_is ok w).mp q.1)), if_neg (fun q => z q.1)]
end
section
variable {L : Nat} {xs : Nat → Int32}
theorem op_line (w b lv : Int32) : lw_o (lw_K L xs) L xs 119 175 [.int w, .int b, .int lv] false := by
  intro k h p
  obtain ⟨W, g, nx, s, X, R, B, D, U, x, T, I⟩ := p
  by_cases q : 0 ≤ w.toInt ∧ w.toInt ≤ 3
  · have t := kc_line nx s I.cn w b lv q
    have r := rc_line 56 I.pre w b lv q
    rw [tl_ln I.tl w b lv _ (Nat.le_refl _)] at t
    exact lw_ask I (Or.inr ⟨rfl, _, rfl⟩) t kq_f.rf r rf_J.rf
  · exact lw_ask I (Or.inr ⟨rfl, _, rfl⟩) (kc_line_no nx s w b lv q) kq_f.rf (rc_line_no 56 R w b lv q) rf_J.rf
end
