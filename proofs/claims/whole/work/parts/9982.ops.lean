/-! calls: gap sheet cell empty finding undo redo -/
theorem rf_put_in {f w : Nat → Int32} {a n j : Nat} (h : a ≤ j ∧ j < a + n) : rf_put f w a n j = w (j - a) := if_pos h
theorem rf_put_out {f w : Nat → Int32} {a n j : Nat} (h : ¬ (a ≤ j ∧ j < a + n)) : rf_put f w a n j = f j := if_neg h
section
variable {L : Nat} {xs : Nat → Int32} {k : Nat} {h : jx_H} {W : cw} {g : Nat → Option jx_E} {nx s : Nat} {X : Nat → Option jx_E} {R : rf_R} {B D U x : Nat} {T : tv}
theorem lw_I.cn (I : lw_I L xs k h W g nx s X R B D U x T) : cl_now W g x T := ⟨⟨B, D, I.now.1⟩, I.now.2⟩
theorem op_gap (a : Int32) : lw_o (lw_K L xs) L xs 103 150 [.int a] true := by
  intro k h p
  obtain ⟨W, g, nx, s, X, R, B, D, U, x, T, I⟩ := p
  have h78 := I.nx78
  by_cases q : 1 ≤ a.toInt ∧ a.toInt ≤ 200
  · obtain ⟨g2, t, e, f, n2⟩ := kc_gap (s := s) (by omega) I.free I.now a q
    exact lw_act I t e f n2 (rc_gap 56 R B D I.now.1.1 I.now.1.2.1 I.e2 I.e3 a q) (I.tl.gap (fun c hc _ => upd_ne hc) upd_eq q) ⟨by omega, by omega⟩ (by omega)
  · exact lw_no I (kc_gap_no a q) (rc_gap_no 56 R a q)
theorem op_sheet (a f n : Int32) : lw_o (lw_K L xs) L xs 89 134 [.int a, .int f, .int n] true := by
  intro k h p
  obtain ⟨W, g, nx, s, X, R, B, D, U, x, T, I⟩ := p
  have h78 := I.nx78
  by_cases q1 : (0 ≤ a.toInt ∧ a.toInt ≤ 7) ∧ (0 ≤ f.toInt ∧ f.toInt ≤ 2)
  · by_cases q2 : 0 ≤ n.toInt ∧ n.toInt ≤ 16
    · obtain ⟨c, c7, rfl⟩ := lw_nat (n := 7) q1.1
      obtain ⟨m, m16, rfl⟩ := lw_nat (n := 16) q2
      obtain ⟨g2, t, e, fr, n2⟩ := kc_sheet (s := s) (by omega) I.free I.now c m (by omega) m16 f q1.2
      refine lw_act I t e fr n2 (rc_sheet 56 R B D I.now.1.1 I.now.1.2.1 I.e2 I.e3 c f (nI m) (by omega) q1.2 q2) (I.tl.sheet (k := c) (Y := some (f, m, fun _ => 0)) (fun j hj _ => ?_) (by omega) (Or.inr ⟨(f, m, fun _ => 0), rfl, ?_, q1.2, ?_, m16, fun j hj => ?_⟩)) ⟨by omega, by omega⟩ (by omega)
      · unfold rf_shN
        rw [rf_put_out (by omega), upd_ne (by omega), upd_ne (by omega)]
      · unfold rf_shN
        rw [rf_put_out (by omega), upd_ne (by omega), upd_eq]
      · unfold rf_shN
        rw [rf_put_out (by omega), upd_eq]
      · have hj : j < m := hj
        unfold rf_shN
        rw [rf_put_in (by omega)]
    · exact lw_no I (kc_sheet_3 a f n q1 q2) (rc_sheet_3 56 R a f n q1 q2)
  · exact lw_no I (kc_sheet_1 a f n q1) (rc_sheet_1 56 R a f n q1)
theorem op_cell (a i v : Int32) : lw_o (lw_K L xs) L xs 93 138 [.int a, .int i, .int v] true := by
  intro k h p
  obtain ⟨W, g, nx, s, X, R, B, D, U, x, T, I⟩ := p
  have h78 := I.nx78
  by_cases q1 : (0 ≤ a.toInt ∧ a.toInt ≤ 7) ∧ (0 ≤ i.toInt ∧ i.toInt ≤ 15)
  · obtain ⟨c, c7, rfl⟩ := lw_nat (n := 7) q1.1
    obtain ⟨m, m15, rfl⟩ := lw_nat (n := 15) q1.2
    rcases I.tl.2.2.1 c (by omega) with ⟨e0, z⟩ | ⟨Y, e0, y1, y2, y3, y4, y5⟩
    · exact lw_no I (kc_cell_4 I.cn c m (by omega) (by omega) v e0) (rc_cell_4 56 R c m (by omega) (by omega) v z)
    · have nz : ¬ R.1 0 (290 + 18 * c) = -1 := by
        rw [y1]
        intro z
        rw [z] at y2
        exact absurd y2.1 (by decide)
      by_cases q2 : m < Y.2.1
      · obtain ⟨g2, t, e, fr, n2⟩ := kc_cell (s := s) (by omega) I.free I.now c m (by omega) (by omega) v e0 y4 q2
        refine lw_act I t e fr n2 (rc_cell 56 R B D I.now.1.1 I.now.1.2.1 I.e2 I.e3 c m Y.2.1 (by omega) (by omega) v nz y4 y3 q2) (I.tl.sheet (k := c) (Y := some (Y.1, Y.2.1, upd Y.2.2 m (rf_nar Y.1 v))) (fun j hj _ => upd_ne (by omega)) (by omega) (Or.inr ⟨(Y.1, Y.2.1, upd Y.2.2 m (rf_nar Y.1 v)), rfl, ?_, y2, ?_, y4, fun j hj => ?_⟩)) ⟨by omega, by omega⟩ (by omega)
        · rw [upd_ne (by omega)]
          exact y1
        · rw [upd_ne (by omega)]
          exact y3
        · have hj : j < Y.2.1 := hj
          show upd Y.2.2 m (rf_nar Y.1 v) j = _
          by_cases z : j = m
          · rw [z, upd_eq, upd_eq, y1]
          · rw [upd_ne z, upd_ne (by omega)]
            exact y5 j hj
      · exact lw_no I (kc_cell_5 I.cn c m (by omega) (by omega) v e0 y4 (by omega)) (rc_cell_5 56 R c m Y.2.1 (by omega) (by omega) v nz y4 y3 (by omega))
  · exact lw_no I (kc_cell_1 a i v q1) (rc_cell_1 56 R a i v q1)
theorem op_empty (a : Int32) : lw_o (lw_K L xs) L xs 106 180 [.int a] true := by
  intro k h p
  obtain ⟨W, g, nx, s, X, R, B, D, U, x, T, I⟩ := p
  have h78 := I.nx78
  by_cases q : 0 ≤ a.toInt ∧ a.toInt ≤ 3
  · obtain ⟨c, c3, rfl⟩ := lw_nat (n := 3) q
    obtain ⟨g2, t, e, f, n2⟩ := kc_empty (s := s) (by omega) I.free I.now c (by omega)
    exact lw_act I t e f n2 (rc_empty 56 R B D I.now.1.1 I.now.1.2.1 I.e2 I.e3 c (by omega)) (I.tl.net (k := c) (fun j hj _ => upd_ne (by omega)) (by omega) ⟨upd_eq, Nat.zero_le _, fun j hj => absurd hj (Nat.not_lt_zero j)⟩) ⟨by omega, by omega⟩ (by omega)
  · exact lw_no I (kc_empty_no a q) (rc_empty_no 56 R a q)
theorem op_finding (a : Int32) : lw_o (lw_K L xs) L xs 121 186 [.int a] false := by
  intro k h p
  obtain ⟨W, g, nx, s, X, R, B, D, U, x, T, I⟩ := p
  have t := kc_finding (W := W) (g := g) nx s a
  rw [I.found a] at t
  exact lw_ask I (Or.inr ⟨rfl, _, rfl⟩) t ⟨fun _ => rfl, rfl, rfl⟩ (rc_finding 56 R a) rf_J.rf
end
