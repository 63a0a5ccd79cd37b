/-! call: fewest -/
section
variable {N : Nat → Int32} {T : tv}
/-- cold bought, and the pinch, as whole numbers -/
theorem cd_i (t : tls T N) : (hz_cd N 3 T.2.1).toInt = zTT N 3 T.2.1 - mnI (zDw N 3 T.2.1) (zAw N 3 T.2.1) (hz_L N 3 T.2.1) (hz_L N 3 T.2.1).length := by
  have ok : lv_ok N 3 T.2.1 (hz_L N 3 T.2.1) := lv_ok_w t.k 3
  obtain ⟨eL, ev, es⟩ := hw_v t 3
  unfold hz_cd
  have en : hz_n N 3 T.2.1 = (hz_L N 3 T.2.1).length := rfl
  by_cases z : hz_n N 3 T.2.1 = 0
  · rw [if_pos z]
    have nil : hz_L N 3 T.2.1 = [] := List.length_eq_zero_iff.mp (en.symm.trans z)
    have none2 : ∀ y, y ∈ lv_w N 3 T.2.1 → False := by
      intro y hy
      have q := ok.2.2 y hy
      rw [nil] at q
      exact List.not_mem_nil q
    have d0 := zD_top t.k (w := 3) (x := 0) (fun y hy => (none2 y hy).elim) _ (Nat.le_refl _)
    have a0 := zA_off t.k (w := 3) (x := 0) (fun y hy => (none2 y hy).elim) _ (Nat.le_refl _)
    have b0 := zD_bot t.k (w := 3) (x := 0) (by decide) (fun y hy => (none2 y hy).elim) _ (Nat.le_refl _)
    rw [nil]
    show 0 = zTT N 3 T.2.1 - 0
    omega
  · rw [if_neg z]
    have hl : hz_n N 3 T.2.1 - 1 < (hz_L N 3 T.2.1).length := by omega
    have hm := cm_i t ok hl
    rw [eL] at es ev
    rw [← (es _ hl).2, ← ev, hm.2]
    have lw : ∀ y, y ∈ lv_w N 3 T.2.1 → (lg (hz_L N 3 T.2.1) (hz_n N 3 T.2.1 - 1)).toInt ≤ y.toInt := by
      intro y hy
      obtain ⟨q, hq, e⟩ := ll_at (ok.2.2 y hy)
      rw [← e]
      exact lv_le ok.1 (by omega) (by omega)
    have bx := ok.2.1 _ (lv_in hl)
    have b0 := zD_bot t.k (w := 3) (x := lg (hz_L N 3 T.2.1) (hz_n N 3 T.2.1 - 1)) (by show -1000 ≤ ((hz_L N 3 T.2.1).getD (hz_n N 3 T.2.1 - 1) 0).toInt ∧ ((hz_L N 3 T.2.1).getD (hz_n N 3 T.2.1 - 1) 0).toInt ≤ 100000; omega) lw _ (Nat.le_refl _)
    show zD N 3 (lg (hz_L N 3 T.2.1) (hz_n N 3 T.2.1 - 1)) T.2.1 + zA N 3 (lg (hz_L N 3 T.2.1) (hz_n N 3 T.2.1 - 1)) T.2.1 - _ = _
    rw [b0]
theorem tl_few (t : tls T N) (k b : Int32) : tw_few T k b = rf_few N T.2.1 k b := by
  have ok : lv_ok N 3 T.2.1 (hz_L N 3 T.2.1) := lv_ok_w t.k 3
  obtain ⟨eL, ev, es⟩ := hw_v t 3
  have evv : tw_fv T = hz_v N 3 T.2.1 := ev
  have ecc : tw_fc T = hz_cd N 3 T.2.1 := hw_c t 3
  have ep := fun k => hw_p t 3 k
  have hM := t.k.1
  obtain ⟨v1, v2, v3⟩ := hz_vi t 3 ok
  have c1 := cd_i t
  have hlen : (tw_L T 3).length ≤ 108 := tw_len t.tvo 3
  have en : hz_n N 3 T.2.1 = (tw_L T 3).length := by
    rw [eL]
    rfl
  have cb : -6000000000 ≤ (hz_cd N 3 T.2.1).toInt ∧ (hz_cd N 3 T.2.1).toInt ≤ 6000000000 := by
    have q := (fs_i t 0 0 0 false _ (Nat.le_refl _))
    have q2 := zX_eq (N := N) 0 0 0 false T.2.1
    rw [if_neg (by decide)] at q2
    rw [q2] at q
    omega
  have nc : (-(hz_cd N 3 T.2.1)).toInt = -(hz_cd N 3 T.2.1).toInt := by
    rw [Int64.toInt_neg]
    exact Int.bmod_eq_of_le (by omega) (by omega)
  have pm : tw_p T 3 (-1) = -1 := by
    rw [ep]
    refine rf_pn_m1 _ _ _ _ _ _ _ ?_
    rw [show (0 : Int32).toInt = 0 from rfl, en]
    omega
  unfold tw_few rf_few
  by_cases k1 : k = -1
  · rw [if_pos k1, ← ep]
    by_cases w0 : tw_p T 3 0 = -1
    · have wh : tw_wh T k := ⟨k1, w0⟩
      rw [if_neg (fun q => q.2 wh), if_pos (by rw [w0]; decide)]
      have e2 : tw_f2 T k b = fw_add (fw_add (fw_a N T.2.1) (hz_v N 3 T.2.1)) (-(hz_cd N 3 T.2.1)) := by
        unfold tw_f2 tw_f1 tw_fl
        rw [if_pos (Or.inl wh), if_pos (Or.inl wh), evv, ecc, k1, pm, decide_eq_false (fun q => absurd q.1 (by decide)), fl_a t _ _ _ _ (Nat.le_refl _)]
      rw [← e2]
      refine few_ans _ (by have := tw_f2_len T k b; omega) ?_
      have e3 : fw_a N T.2.1 = fh_l T 0 0 0 false T.2.1 := (fl_a t 0 0 0 _ (Nat.le_refl _)).symm
      rw [e2, ss_add, ss_add, e3]
      obtain ⟨f1, f2, f3⟩ := fs_i t 0 0 0 false _ (Nat.le_refl _)
      have q2 := zX_eq (N := N) 0 0 0 false T.2.1
      rw [if_neg (by decide)] at q2
      apply Int64.toInt_inj.mp
      rw [Int64.toInt_add, Int64.toInt_add, f1, v1, nc, c1, q2]
      rw [q2] at f2 f3
      rw [c1] at cb
      rw [Int.bmod_eq_of_le (n := zTT N 3 T.2.1 + -mnI (zDw N 3 T.2.1) (zAw N 3 T.2.1) (hz_L N 3 T.2.1) (hz_L N 3 T.2.1).length) (by omega) (by omega), Int.bmod_eq_of_le (by omega) (by omega), show (0 : Int64).toInt = 0 from rfl]
      omega
    · have wh : ¬ tw_wh T k := fun q => w0 q.2
      rw [if_pos ⟨by rw [k1]; exact pm, wh⟩]
      rcases rf_pn_ip (hz_ah N 3 T.2.1) (hz_be N 3 T.2.1) (hz_n N 3 T.2.1) (hz_v N 3 T.2.1) 0 (hz_n N 3 T.2.1) 0 0 with e | ⟨j, -, hj, e, -⟩
      · exact absurd ((ep 0).trans e) w0
      · have e2 : tw_p T 3 0 = nI j := (ep 0).trans e
        have ej : (nI j).toInt = j := nI_toInt (by omega)
        rw [e2, if_neg]
        rw [lv_i, ej, show (0 : Int32).toInt = 0 from rfl]
        omega
  · rw [if_neg k1, ← ep]
    have wh : ¬ tw_wh T k := fun q => k1 q.1
    rcases rf_pn_ip (hz_ah N 3 T.2.1) (hz_be N 3 T.2.1) (hz_n N 3 T.2.1) (hz_v N 3 T.2.1) k (hz_n N 3 T.2.1) 0 0 with e | ⟨j, -, hj, e, ip⟩
    · have e2 : tw_p T 3 k = -1 := (ep k).trans e
      rw [if_pos ⟨e2, wh⟩, e2, if_pos (by decide)]
    · have e2 : tw_p T 3 k = nI j := (ep k).trans e
      have ej : (nI j).toInt = j := nI_toInt (by omega)
      have ecl : (nI j).toNatClampNeg = j := nI_clamp (by omega)
      have hj2 : j < (tw_L T 3).length := by omega
      have hj3 : j < (hz_L N 3 T.2.1).length := by
        rw [← eL]
        exact hj2
      rw [if_neg (fun q => by
        have r := congrArg Int32.toInt (e2.symm.trans q.1)
        rw [ej, show (-1 : Int32).toInt = -1 from rfl] at r
        omega), if_neg (show ¬ tw_p T 3 k < 0 by
        rw [e2, lv_i, ej, show (0 : Int32).toInt = 0 from rfl]
        omega)]
      have m1 := cm_i t ok hj3
      rw [eL] at es ev
      obtain ⟨es1, es2⟩ := es j hj3
      rw [es2, es1, ev] at m1
      obtain ⟨lv, elv⟩ : ∃ lv, lv = (hz_L N 3 T.2.1).getD j 0 := ⟨_, rfl⟩
      obtain ⟨sa, esa⟩ : ∃ sa : Int32, sa = if hz_ah N 3 T.2.1 j + hz_v N 3 T.2.1 = 0 then 0 else 1 := ⟨_, rfl⟩
      obtain ⟨gb, egb⟩ : ∃ gb : Int32, gb = if hz_ah N 3 T.2.1 j + hz_v N 3 T.2.1 = 0 then 1 else 0 := ⟨_, rfl⟩
      have hsg : sa = 0 ↔ ¬ gb = 0 := by
        rw [esa, egb]
        by_cases q : hz_ah N 3 T.2.1 j + hz_v N 3 T.2.1 = 0
        · rw [if_pos q, if_pos q]
          decide
        · rw [if_neg q, if_neg q]
          decide
      have efl : tw_fl T k b = fh_l T lv sa b true T.2.1 := by
        unfold tw_fl
        have e4 : cf_su (tw_fa T) (tw_fb T) j = hz_ah N 3 T.2.1 j := by
          unfold tw_fa tw_fb
          rw [eL]
          exact es1
        rw [e2, ecl, e4, evv, eL, decide_eq_true (show 0 ≤ (nI j).toInt ∧ (nI j).toInt < ((hz_L N 3 T.2.1).length : Int) by rw [ej]; omega), ← esa, ← elv]
      have e5 : tw_f2 T k b = fw_add (fw_p N b gb lv T.2.1) (if b = 0 then hz_v N 3 T.2.1 else -(hz_cd N 3 T.2.1)) := by
        unfold tw_f2 tw_f1
        rw [efl, fl_p t lv sa gb b hsg _ (Nat.le_refl _), evv, ecc]
        by_cases y : b = 0
        · rw [if_neg (show ¬ (tw_wh T k ∨ ¬ b = 0) from fun q => q.elim wh (fun q => q y)), if_pos (show tw_wh T k ∨ b = 0 from Or.inr y), if_pos y]
        · rw [if_pos (show tw_wh T k ∨ ¬ b = 0 from Or.inr y), if_neg (show ¬ (tw_wh T k ∨ b = 0) from fun q => q.elim wh y), if_neg y]
      rw [e2, ecl, ← egb, ← elv, ← e5]
      refine few_ans _ (by have := tw_f2_len T k b; omega) ?_
      rw [e5, ss_add, ← fl_p t lv sa gb b hsg _ (Nat.le_refl _)]
      obtain ⟨f1, f2, f3⟩ := fs_i t lv sa b true _ (Nat.le_refl _)
      have q2 := zX_eq (N := N) lv sa b true T.2.1
      rw [if_pos rfl] at q2
      have key : zD N 3 lv T.2.1 + (if sa = 0 then 0 else zA N 3 lv T.2.1) = mnI (zDw N 3 T.2.1) (zAw N 3 T.2.1) (hz_L N 3 T.2.1) (hz_L N 3 T.2.1).length := by
        rw [esa]
        by_cases q : hz_ah N 3 T.2.1 j + hz_v N 3 T.2.1 = 0
        · rw [if_pos q, if_pos rfl, Int.add_zero]
          have r := m1.1
          rw [q, show (0 : Int64).toInt = 0 from rfl] at r
          rw [elv]
          show zDw N 3 T.2.1 (lg (hz_L N 3 T.2.1) j) = _
          omega
        · rw [if_neg q, if_neg (by decide)]
          have q3 := ip.2.elim id (fun r => absurd r q)
          have r := m1.2
          rw [q3, show (0 : Int64).toInt = 0 from rfl] at r
          rw [elv]
          show zDw N 3 T.2.1 (lg (hz_L N 3 T.2.1) j) + zAw N 3 T.2.1 (lg (hz_L N 3 T.2.1) j) = _
          omega
      rw [key] at q2
      apply Int64.toInt_inj.mp
      rw [q2] at f1 f2 f3
      rw [c1] at cb
      by_cases y : b = 0
      · rw [if_pos y] at f1 f2 f3 ⊢
        rw [Int64.toInt_add, f1, v1, Int.bmod_eq_of_le (by omega) (by omega), show (0 : Int64).toInt = 0 from rfl]
        omega
      · rw [if_neg y] at f1 f2 f3 ⊢
        rw [Int64.toInt_add, f1, nc, c1, Int.bmod_eq_of_le (by omega) (by omega), show (0 : Int64).toInt = 0 from rfl]
        omega
end
section
variable {L : Nat} {xs : Nat → Int32}
theorem op_fewest (a b : Int32) : lw_o (lw_K L xs) L xs 124 191 [.int a, .int b] true := by
  intro k h p
  obtain ⟨W, g, nx, s, X, R, B, D, U, x, T, I⟩ := p
  obtain ⟨W2, t, f⟩ := kc_fewest nx s I.cn a b
  obtain ⟨R2, r, j⟩ := rc_fewest 56 I.pre I.e28 a b
  rw [tl_few I.tl a b] at t
  exact lw_ask I (Or.inl ⟨rfl, _, rfl⟩) t f r j
end
