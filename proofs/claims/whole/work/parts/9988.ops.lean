/-! calls: copy -/
section
variable {L : Nat} {xs : Nat → Int32} {k : Nat} {h : jx_H} {W : cw} {g : Nat → Option jx_E} {nx s : Nat} {X : Nat → Option jx_E} {R : rf_R} {B D U x : Nat} {T : tv}
theorem lw_act5 (I : lw_I L xs k h W g nx s X R B D U x T) {mc mr : Nat} {args : List Value} {y : Nat} {T2 : tv} {N2 f5 : Nat → Int32} {g2 : Nat → Option jx_E} {nx2 s2 : Nat} (t : jx_T mc 0 (jx_ent mc (.ref 1 :: args)) [] (hc W g nx s) (some (.int 0)) (hc (kw_act W B D y) g2 nx2 s2)) (hg : ge g g2) (hf : ∀ a, nx2 ≤ a → g2 a = none) (n2 : kn_at (kw_act W B D y) g2 (kB B D) (kD D) y T2) (c : rf_C mr 56 (.ref 56 :: args) R (some (.int 0)) (rf_acts (rf_sA (rf_sA R 5 f5) 0 N2) B D)) (tl : tls T2 N2) (hx : nx ≤ nx2 ∧ nx2 ≤ nx + 100) (hs : s2 ≤ s + 400) : lw_C (lw_K L xs) L xs k h mc mr args true := by
  obtain ⟨t1, ho, A1⟩ := I.cls t
  obtain ⟨X2, t2, o2, A2⟩ := lw_ref ho I.only A1 c
  obtain ⟨k1, k2, k3⟩ := kw_act_at W B D y
  obtain ⟨r1, r2, r3, r4, r5, r6, r7⟩ := rf_acts_at (rf_sA R 5 f5) N2 B D I.now.1.2.1 I.e2 I.e3
  have nx78 := I.nx78
  have h1 := I.cells
  have h2 := I.slots
  have c2 : nx2 ≤ 78 + 100 * (k + 1) := by omega
  have s3 : s2 ≤ k1_s + kz129 + 400 * (k + 1) := Nat.le_trans hs (Nat.le_trans (Nat.add_le_add_right h2 400) (Nat.le_of_eq (by rw [Nat.mul_add, Nat.mul_one, Nat.add_assoc])))
  have sc2 : lw_sc L xs (ju (hc (kw_act W B D y) g2 nx2 s2) X) := ⟨by rw [ju_0 (Or.inr rfl), hg _ _ I.script], ⟨_, rfl⟩, ⟨_, A1.1⟩⟩
  obtain ⟨a, a1, a2, a3⟩ := I.asked
  have hD2 : kD D + 0 ≤ 200 := by
    have := n2.1.2.1
    omega
  have rg5 : rg W g (rf_sA R 5 f5) B (D + U) := I.ring
  refine ⟨.int 0, _, _, Or.inl ⟨rfl, 0, rfl⟩, t1, sc2, t2, kw_act W B D y, g2, nx2, s2, X2, rf_acts (rf_sA (rf_sA R 5 f5) 0 N2) B D, kB B D, kD D, 0, y, T2, rfl, by omega, hf, ho, o2, hg _ _ I.script, A2, n2, r1.symm ▸ tl, r2, r3, r4, k1, hD2, rg_act I.now.1.1 I.hU rg5 hg n2.2.1 tl, ⟨a, a1, k2.trans a2, (r5 39 (by decide)).trans a3⟩, fun w => ?_, (r5 6 (by decide)).trans I.e6, (congrFun r7 0).trans I.e28, c2, s3⟩
  rw [k3, I.found w]
  unfold rf_fin
  rw [r5 24 (by decide), r6]
  rfl
theorem lw_ge0 {a : Int32} (h : ¬ a < 0) : 0 ≤ a.toInt := by
  by_cases z : 0 ≤ a.toInt
  · exact z
  · exact absurd (Int32.lt_iff_toInt_lt.mpr (by rw [show (0 : Int32).toInt = 0 from by decide]; omega)) h
theorem op_copy (a i o j n : Int32) : lw_o (lw_K L xs) L xs 95 142 [.int a, .int i, .int o, .int j, .int n] true := by
  intro k h p
  obtain ⟨W, g, nx, s, X, R, B, D, U, x, T, I⟩ := p
  have h78 := I.nx78
  by_cases hb : (0 ≤ a.toInt ∧ a.toInt ≤ 7) ∧ (0 ≤ o.toInt ∧ o.toInt ≤ 7)
  · obtain ⟨c, c7, rfl⟩ := lw_nat (n := 7) hb.1
    obtain ⟨d, d7, rfl⟩ := lw_nat (n := 7) hb.2
    have len : ∀ c, c < 8 → (T.2.2.2.1 c = none ∧ R.1 0 (290 + 18 * c) = -1 ∧ rf_fl (R.1 0) c = nI 0) ∨ ∃ Y, T.2.2.2.1 c = some Y ∧ (R.1 0 (290 + 18 * c) = Y.1 ∧ ¬ R.1 0 (290 + 18 * c) = -1) ∧ rf_fl (R.1 0) c = nI Y.2.1 ∧ Y.2.1 ≤ 16 ∧ (∀ j, j < Y.2.1 → Y.2.2 j = R.1 0 (290 + 18 * c + 2 + j)) ∧ (0 ≤ Y.1.toInt ∧ Y.1.toInt ≤ 2) ∧ R.1 0 (290 + 18 * c + 1) = nI Y.2.1 := by
      intro c hc2
      unfold rf_fl
      rcases I.tl.2.2.1 c hc2 with ⟨e0, z⟩ | ⟨Y, e0, y1, y2, y3, y4, y5⟩
      · exact Or.inl ⟨e0, z, by rw [if_pos z]; rfl⟩
      · have nz : ¬ R.1 0 (290 + 18 * c) = -1 := by
          rw [y1]
          intro z
          rw [z] at y2
          exact absurd y2.1 (by decide)
        exact Or.inr ⟨Y, e0, ⟨y1, nz⟩, by rw [if_neg nz]; exact y3, y4, y5, y2, y3⟩
    have ref : ∀ l1 l2, l1 ≤ 16 → l2 ≤ 16 → rf_fl (R.1 0) c = nI l1 → rf_fl (R.1 0) d = nI l2 → _ := fun l1 l2 h1 h2 e1 e2 => rc_copy 56 R B D I.now.1.1 I.now.1.2.1 I.e2 I.e3 c d l1 l2 (by omega) (by omega) h1 h2 e1 e2 i j n
    unfold rf_cpc at ref
    by_cases q3 : n < 0 ∨ i < 0 ∨ j < 0
    · have e1 : ∃ l, l ≤ 16 ∧ rf_fl (R.1 0) c = nI l := by
        rcases len c (by omega) with ⟨-, -, z⟩ | ⟨Y, -, -, z, y4, -⟩
        · exact ⟨0, by decide, z⟩
        · exact ⟨_, y4, z⟩
      have e2 : ∃ l, l ≤ 16 ∧ rf_fl (R.1 0) d = nI l := by
        rcases len d (by omega) with ⟨-, -, z⟩ | ⟨Y, -, -, z, y4, -⟩
        · exact ⟨0, by decide, z⟩
        · exact ⟨_, y4, z⟩
      obtain ⟨l1, u1, v1⟩ := e1
      obtain ⟨l2, u2, v2⟩ := e2
      have r := ref l1 l2 u1 u2 v1 v2
      rw [if_pos q3, if_neg (by decide)] at r
      exact lw_no I (kc_copy_3 c d (by omega) (by omega) i j n q3) r
    · have n0 : ¬ n < 0 := fun q => q3 (Or.inl q)
      have i0 : ¬ i < 0 := fun q => q3 (Or.inr (Or.inl q))
      have j0 : ¬ j < 0 := fun q => q3 (Or.inr (Or.inr q))
      have ni := lw_ge0 n0
      have ii := lw_ge0 i0
      have ji := lw_ge0 j0
      rcases len c (by omega) with ⟨e0, z, el⟩ | ⟨Z, ez, ⟨z1, z2⟩, z3, z4, z5, z6, z7⟩
      · have e2 : ∃ l, l ≤ 16 ∧ rf_fl (R.1 0) d = nI l := by
          rcases len d (by omega) with ⟨-, -, z⟩ | ⟨Y, -, -, z, y4, -⟩
          · exact ⟨0, by decide, z⟩
          · exact ⟨_, y4, z⟩
        obtain ⟨l2, u2, v2⟩ := e2
        have r := ref 0 l2 (by decide) u2 el v2
        rw [if_neg q3, if_pos (Or.inl z), if_neg (by decide)] at r
        exact lw_no I (kc_copy_4 I.cn c d (by omega) (by omega) i j n n0 i0 j0 (Or.inl e0)) r
      · rcases len d (by omega) with ⟨e0, z, el⟩ | ⟨Y, ey, ⟨y1, y2⟩, y3, y4, y5, y6, y7⟩
        · have r := ref Z.2.1 0 z4 (by decide) z3 el
          rw [if_neg q3, if_pos (Or.inr z), if_neg (by decide)] at r
          exact lw_no I (kc_copy_4 I.cn c d (by omega) (by omega) i j n n0 i0 j0 (Or.inr e0)) r
        · have r := ref Z.2.1 Y.2.1 z4 y4 z3 y3
          rw [if_neg q3, if_neg (fun q => q.elim z2 y2)] at r
          by_cases q5 : (Z.2.1 : Int) < i.toInt + n.toInt ∨ (Y.2.1 : Int) < j.toInt + n.toInt
          · rw [if_pos q5, if_neg (by decide)] at r
            exact lw_no I (kc_copy_5 I.cn c d (by omega) (by omega) i j n n0 i0 j0 ez ey z4 y4 q5) r
          · rw [if_neg q5] at r
            by_cases q6 : Z.1 = Y.1
            · rw [if_pos (show R.1 0 (290 + 18 * c) = R.1 0 (290 + 18 * d) by rw [z1, y1]; exact q6), if_pos rfl] at r
              obtain ⟨n, n16, rfl⟩ := lw_nat (a := n) (n := 16) ⟨ni, by omega⟩
              obtain ⟨i, i16, rfl⟩ := lw_nat (a := i) (n := 16) ⟨ii, by omega⟩
              obtain ⟨j, j16, rfl⟩ := lw_nat (a := j) (n := 16) ⟨ji, by omega⟩
              rw [nI_toInt (by omega), nI_toInt (by omega), nI_toInt (by omega)] at q5
              rw [nI_clamp (by omega), nI_clamp (by omega), nI_clamp (by omega)] at r
              unfold rf_cpR at r
              obtain ⟨g2, t, e, fr, n2⟩ := kc_copy (s := s) (by omega) I.free I.now c d i j n (by omega) (by omega) ez ey z4 y4 (by omega) (by omega) q6
              refine lw_act5 I t e fr n2 r (I.tl.sheet (k := d) (Y := some (Y.1, Y.2.1, rf_put Y.2.2 (fun q => Z.2.2 (i + q)) j n)) (fun q hq _ => rf_put_out (by omega)) (by omega) (Or.inr ⟨(Y.1, Y.2.1, rf_put Y.2.2 (fun q => Z.2.2 (i + q)) j n), rfl, ?_, y6, ?_, y4, fun q hq => ?_⟩)) ⟨by omega, by omega⟩ (by omega)
              · rw [rf_put_out (by omega)]
                exact y1
              · rw [rf_put_out (by omega)]
                exact y7
              · have hq : q < Y.2.1 := hq
                show rf_put Y.2.2 (fun q => Z.2.2 (i + q)) j n q = _
                by_cases w : j ≤ q ∧ q < j + n
                · rw [rf_put_in w, rf_put_in (by omega), z5 _ (by omega), show 290 + 18 * d + 2 + q - (290 + 18 * d + 2 + j) = q - j by omega, Nat.add_assoc (290 + 18 * c + 2) i]
                · rw [rf_put_out w, rf_put_out (by omega)]
                  exact y5 q hq
            · rw [if_neg (show ¬ R.1 0 (290 + 18 * c) = R.1 0 (290 + 18 * d) by rw [z1, y1]; exact q6), if_neg (by decide)] at r
              exact lw_no I (kc_copy_6 I.cn c d (by omega) (by omega) i j n n0 i0 j0 ez ey z4 y4 q5 q6) r
  · exact lw_no I (kc_copy_1 a i o j n hb) (rc_copy_1 56 R a i o j n hb)
end
