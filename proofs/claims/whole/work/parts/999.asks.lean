/-! calls: levels level -/
theorem lv_w_srt (N : Nat → Int32) (w : Int32) : ∀ i, lv_srt (lv_w N w i)
  | 0 => List.Pairwise.nil
  | i + 1 => by
    unfold lv_w
    by_cases z : rf_isb N i w = true
    · rw [if_pos z]
      exact lv_all_srt (lv_w_srt N w i)
    · rw [if_neg z]
      exact lv_w_srt N w i
theorem tl_is {N : Nat → Int32} {i : Nat} (ok : tl_ok N i) (w : Int32) : sv_is (tl_S N i) w ↔ rf_isb N i w = true := by
  unfold rf_isb
  rw [decide_eq_true_iff]
  show ¬ (N (2 + 24 * i) = 3 ∨ N (2 + 24 * i) = 4) ∧ (w = 3 ∨ w = N (2 + 24 * i + 2)) ↔ _
  rw [← tl_k ok]
  exact ⟨fun q => ⟨q.1, q.2.elim Or.inl (fun r => Or.inr r.symm)⟩, fun q => ⟨q.1, q.2.elim Or.inl (fun r => Or.inr r.symm)⟩⟩
theorem tls.L {T : tv} {N : Nat → Int32} (t : tls T N) (w : Int32) : ∀ i, i ≤ T.2.1 → tg_L T w i = lv_w N w i
  | 0, _ => rfl
  | i + 1, hi => by
    have ih := tls.L t w i (by omega)
    obtain ⟨e, ok⟩ := t.2.1 i (by omega)
    unfold tg_L lv_w
    rw [ih, e]
    by_cases z : sv_is (tl_S N i) w
    · rw [if_pos z, if_pos ((tl_is ok w).mp z)]
      refine lv_ext (lv_all_srt (lv_w_srt N w i)) (lv_all_srt (lv_w_srt N w i)) (fun x => ?_)
      rw [lv_all_mem, lv_all_mem, ← t.1.2.2.1, tl_ls_mem ok]
    · rw [if_neg z, if_neg (fun q => z ((tl_is ok w).mpr q))]
theorem tls.tw {T : tv} {N : Nat → Int32} (t : tls T N) (w : Int32) : tw_L T w = lv_w N w T.2.1 := t.L w T.2.1 (Nat.le_refl _)
theorem rf_kp.J {R R2 : rf_R} (a : rf_kp R R2) : rf_J R R2 := ⟨a.1 0 (by decide), a.1 1 (by decide), fun k hk => a.2.2.1 k (by omega), fun k _ => by rw [a.2.2.2], by rw [a.1 28 (by decide)]⟩
section
variable {L : Nat} {xs : Nat → Int32} {k : Nat} {h : jx_H} {W : cw} {g : Nat → Option jx_E} {nx s : Nat} {X : Nat → Option jx_E} {R : rf_R} {B D U x : Nat} {T : tv}
theorem lw_I.pre (I : lw_I L xs k h W g nx s X R B D U x T) : rf_Pre R T.2.1 0 := ⟨I.tl.1.2.1, by decide, I.tl.1.1, I.e6, fun i hi => ⟨(I.tl.2.1 i hi).2.2.2.1.2, (I.tl.2.1 i hi).2.2.2.1.1⟩⟩
theorem lw_I.hn (I : lw_I L xs k h W g nx s X R B D U x T) (w : Int32) : rf_hn R w T.2.1 0 = (lv_w (R.1 0) w T.2.1).length := lv_hn I.pre w
theorem op_levels (w : Int32) : lw_o (lw_K L xs) L xs 117 169 [.int w] true := by
  intro k h p
  obtain ⟨W, g, nx, s, X, R, B, D, U, x, T, I⟩ := p
  by_cases q : 0 ≤ w.toInt ∧ w.toInt ≤ 3
  · obtain ⟨W2, t, f⟩ := kc_levels nx s I.cn w q
    have r := rc_levels 56 I.pre w q
    rw [I.tl.tw w] at t
    rw [I.hn w] at r
    exact lw_ask I (Or.inl ⟨rfl, _, rfl⟩) t f.Q r (rf_las_ok I.pre w).1.J
  · exact lw_no I (kc_levels_no nx s w q) (rc_levels_no 56 R w q)
theorem op_level (w a : Int32) : lw_o (lw_K L xs) L xs 116 170 [.int w, .int a] true := by
  intro k h p
  obtain ⟨W, g, nx, s, X, R, B, D, U, x, T, I⟩ := p
  by_cases q : 0 ≤ w.toInt ∧ w.toInt ≤ 3
  · obtain ⟨W2, t, f⟩ := kc_level nx s I.cn w a q
    have r := rc_level 56 I.pre w a q
    rw [I.tl.tw w] at t
    by_cases z : 0 ≤ a.toInt ∧ a.toInt < (lv_w (R.1 0) w T.2.1).length
    · have e := lv_get I.pre w a.toNatClampNeg (by rw [I.hn w]; show a.toInt.toNat < _; omega)
      rw [if_pos z] at t
      rw [if_pos (by rw [I.hn w]; omega), e] at r
      exact lw_ask I (Or.inl ⟨rfl, _, rfl⟩) t f.Q r (rf_las_ok I.pre w).1.J
    · rw [if_neg z] at t
      rw [if_neg (by rw [I.hn w]; omega)] at r
      exact lw_ask I (Or.inl ⟨rfl, _, rfl⟩) t f.Q r (rf_las_ok I.pre w).1.J
  · exact lw_no I (kc_level_no nx s w a q) (rc_level_no 56 R w a q)
end
