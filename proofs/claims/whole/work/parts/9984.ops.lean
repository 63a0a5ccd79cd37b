/-! calls: bought plain -/
theorem rf_bg_at (N : Nat → Int32) (M : Nat) (kd hot w f : Int32) {c : Nat} (hc : c < 24) : rf_bg N M kd hot w f (2 + 24 * M + c) = if c = 0 then kd else if c = 1 then rf_o (¬ hot = 0) else if c = 2 then w else if c = 3 then f else 0 := by
  unfold rf_bg
  by_cases h3 : c = 3
  · subst h3
    rw [upd_eq]
    rfl
  rw [upd_ne (by omega)]
  by_cases h2 : c = 2
  · subst h2
    rw [upd_eq]
    rfl
  rw [upd_ne (by omega)]
  by_cases h1 : c = 1
  · subst h1
    rw [upd_eq]
    rfl
  rw [upd_ne (by omega)]
  by_cases h0 : c = 0
  · subst h0
    rw [Nat.add_zero, upd_eq]
    rfl
  rw [upd_ne (by omega), rf_put_in (by omega), if_neg h0, if_neg h1, if_neg h2, if_neg h3]
theorem rf_bg_out (N : Nat → Int32) (M : Nat) (kd hot w f : Int32) {j : Nat} (hc : ¬ (2 + 24 * M ≤ j ∧ j < 2 + 24 * M + 24)) : rf_bg N M kd hot w f j = N j := by
  unfold rf_bg
  rw [upd_ne (by omega), upd_ne (by omega), upd_ne (by omega), upd_ne (by omega), rf_put_out hc]
theorem lw_01 (b : Int32) : rf_o (¬ b = 0) = 0 ∨ rf_o (¬ b = 0) = 1 := by
  by_cases z : b = 0
  · exact Or.inl (rf_of (fun q => q z))
  · exact Or.inr (rf_ot z)
section
variable {L : Nat} {xs : Nat → Int32} {k : Nat} {h : jx_H} {W : cw} {g : Nat → Option jx_E} {nx s : Nat} {X : Nat → Option jx_E} {R : rf_R} {B D U x : Nat} {T : tv}
theorem op_bought (b t q : Int32) : lw_o (lw_K L xs) L xs 102 149 [.int (rf_o (¬ b = 0)), .int t, .int q] true := by
  intro k h p
  obtain ⟨W, g, nx, s, X, R, B, D, U, x, T, I⟩ := p
  have h78 := I.nx78
  have hM12 := I.tl.1.2.1
  have h01 := lw_01 b
  generalize rf_o (¬ b = 0) = hot at h01 ⊢
  by_cases hM : T.2.1 < 12
  · by_cases hb : (0 ≤ t.toInt ∧ t.toInt ≤ 2000) ∧ (1 ≤ q.toInt ∧ q.toInt ≤ 1000)
    · obtain ⟨g2, tt, e, f, n2⟩ := kc_bought (s := s) (by omega) I.free I.now hot t q h01 hM hb.1 hb.2
      have eh : rf_o (¬ hot = 0) = hot := by
        rcases h01 with rfl | rfl <;> decide
      have ref := rc_bought 56 R B D I.now.1.1 I.now.1.2.1 I.e2 I.e3 hot t q T.2.1 hM (lw_M I) hb.1 hb.2
      generalize hN2 : rf_boN (R.1 0) T.2.1 hot t q = N2 at ref
      have va : ∀ c, c < 24 → N2 (2 + 24 * T.2.1 + c) = if c = 5 then q else if c = 0 then (if hot = 0 then 4 else 3) else if c = 1 then hot else if c = 2 then -1 else if c = 3 then t else 0 := by
        intro c hc
        subst hN2
        unfold rf_boN
        rw [upd_ne (by omega)]
        by_cases z : c = 5
        · rw [if_pos z, z, upd_eq]
        · rw [if_neg z, upd_ne (by omega), rf_bg_at _ _ _ _ _ _ hc, eh]
      have v0 : N2 (2 + 24 * T.2.1) = if hot = 0 then 4 else 3 := va 0 (by decide)
      have v1 : N2 (2 + 24 * T.2.1 + 1) = hot := va 1 (by decide)
      have v2 : N2 (2 + 24 * T.2.1 + 2) = -1 := va 2 (by decide)
      have v3 : N2 (2 + 24 * T.2.1 + 3) = t := va 3 (by decide)
      have v4 : N2 (2 + 24 * T.2.1 + 4) = 0 := va 4 (by decide)
      have v5 : N2 (2 + 24 * T.2.1 + 5) = q := va 5 (by decide)
      have sp : rf_sp N2 T.2.1 = 0 := by unfold rf_sp; rw [v4]; decide
      refine lw_act I tt e f n2 ref (I.tl.come hM (fun c c0 hc _ => ?_) (by subst hN2; unfold rf_boN; rw [upd_eq]) ?_ ?_) ⟨by omega, by omega⟩ (by omega)
      · subst hN2
        unfold rf_boN
        rw [upd_ne c0, upd_ne (by omega), rf_bg_out _ _ _ _ _ _ hc]
      · unfold tl_S
        rw [v0, v1, v2, v3, v5, sp]
        unfold sn_S
        congr 1
      · refine ⟨by rw [v1]; exact h01, by rw [v3]; exact hb.1, ⟨by rw [v4, sp]; rfl, by rw [sp]; decide⟩, Or.inr (Or.inl ⟨?_, sp, by rw [v5]; exact hb.2, v2⟩)⟩
        rw [v0, v1]
        rcases h01 with rfl | rfl
        · exact Or.inr ⟨rfl, rfl⟩
        · exact Or.inl ⟨rfl, rfl⟩
    · exact lw_no I (kc_bought_3 I.cn hot t q hM hb) (rc_bought_3 56 R hot t q T.2.1 hM (lw_M I) hb)
  · exact lw_no I (kc_bought_2 I.cn hot t q hM) (rc_bought_2 56 R hot t q (by rw [lw_M I, show T.2.1 = 12 by omega]))
theorem pl_dif {a b : Int32} (ha : 0 ≤ a.toInt ∧ a.toInt ≤ 2000) (hb : 0 ≤ b.toInt ∧ b.toInt ≤ 2000) : (if 0 ≤ a - b then a - b else -(a - b)) = (if b < a then a - b else b - a) ∧ (¬ a = b → 1 ≤ (if b < a then a - b else b - a).toInt) ∧ (if b < a then a - b else b - a).toInt = if b < a then a.toInt - b.toInt else b.toInt - a.toInt := by
  have e1 : (a - b).toInt = a.toInt - b.toInt := by rw [Int32.toInt_sub]; exact Int.bmod_eq_of_le (by omega) (by omega)
  have e2 : (b - a).toInt = b.toInt - a.toInt := by rw [Int32.toInt_sub]; exact Int.bmod_eq_of_le (by omega) (by omega)
  have e3 : (-(a - b)).toInt = b.toInt - a.toInt := by rw [Int32.toInt_neg, e1]; rw [Int.bmod_eq_of_le (by omega) (by omega)]; omega
  have e0 : (0 : Int32).toInt = 0 := by decide
  by_cases z : b < a
  · have z2 := Int32.lt_iff_toInt_lt.mp z
    rw [if_pos z, if_pos z, if_pos (Int32.le_iff_toInt_le.mpr (by rw [e1, e0]; omega))]
    exact ⟨rfl, fun _ => by omega, e1⟩
  · have z2 : ¬ b.toInt < a.toInt := fun q => z (Int32.lt_iff_toInt_lt.mpr q)
    rw [if_neg z, if_neg z]
    refine ⟨?_, fun ne => ?_, e2⟩
    · by_cases y : 0 ≤ a - b
      · have y2 := Int32.le_iff_toInt_le.mp y
        rw [e1, e0] at y2
        rw [if_pos y]
        apply Int32.toInt_inj.mp
        omega
      · rw [if_neg y]
        apply Int32.toInt_inj.mp
        omega
    · have : ¬ a.toInt = b.toInt := fun q => ne (Int32.toInt_inj.mp q)
      omega
theorem op_plain (w a b q : Int32) : lw_o (lw_K L xs) L xs 96 144 [.int w, .int a, .int b, .int q] true := by
  intro k h p
  obtain ⟨W, g, nx, s, X, R, B, D, U, x, T, I⟩ := p
  have h78 := I.nx78
  have hM12 := I.tl.1.2.1
  by_cases hw : 0 ≤ w.toInt ∧ w.toInt ≤ 2
  · by_cases hM : T.2.1 < 12
    · by_cases hb : (0 ≤ a.toInt ∧ a.toInt ≤ 2000) ∧ (0 ≤ b.toInt ∧ b.toInt ≤ 2000) ∧ ¬ a = b ∧ (1 ≤ q.toInt ∧ q.toInt ≤ 1000)
      · obtain ⟨b1, b2, b3, b4⟩ := hb
        obtain ⟨d1, d2, d3⟩ := pl_dif b1 b2
        obtain ⟨g2, tt, e, f, n2⟩ := kc_plain (s := s) (by omega) I.free I.now w a b q hM hw b1 b2 b3 b4
        have ref := rc_plain 56 R B D I.now.1.1 I.now.1.2.1 I.e2 I.e3 w a b q T.2.1 hM (lw_M I) hw b1 b2 b3 b4
        rw [d1] at n2
        have d2 := d2 b3
        generalize hN2 : rf_plN (R.1 0) T.2.1 w a b q = N2 at ref
        generalize hdd : (if b < a then a - b else b - a) = dd at d2 d3 n2
        have h01 : rf_o (b < a) = 0 ∨ rf_o (b < a) = 1 := by
          by_cases z : b < a
          · exact Or.inr (rf_ot z)
          · exact Or.inl (rf_of z)
        have eh : rf_o (¬ rf_o (b < a) = 0) = rf_o (b < a) := by
          rcases h01 with z | z <;> rw [z] <;> decide
        have va : ∀ c, c < 24 → N2 (2 + 24 * T.2.1 + c) = if c = 7 then q else if c = 6 then dd else if c = 4 then 1 else if c = 0 then 0 else if c = 1 then rf_o (b < a) else if c = 2 then w else if c = 3 then a else 0 := by
          intro c hc
          subst hN2
          unfold rf_plN
          rw [upd_ne (by omega)]
          by_cases z : c = 7
          · rw [if_pos z, z, upd_eq]
          rw [if_neg z, upd_ne (by omega)]
          by_cases z : c = 6
          · rw [if_pos z, z, upd_eq, hdd]
          rw [if_neg z, upd_ne (by omega)]
          by_cases z : c = 4
          · rw [if_pos z, z, upd_eq]
          rw [if_neg z, upd_ne (by omega), rf_bg_at _ _ _ _ _ _ hc, eh]
        have v0 : N2 (2 + 24 * T.2.1) = 0 := va 0 (by decide)
        have v1 : N2 (2 + 24 * T.2.1 + 1) = rf_o (b < a) := va 1 (by decide)
        have v2 : N2 (2 + 24 * T.2.1 + 2) = w := va 2 (by decide)
        have v3 : N2 (2 + 24 * T.2.1 + 3) = a := va 3 (by decide)
        have v4 : N2 (2 + 24 * T.2.1 + 4) = 1 := va 4 (by decide)
        have v5 : N2 (2 + 24 * T.2.1 + 5) = 0 := va 5 (by decide)
        have v6 : tl_d N2 T.2.1 0 = dd := va 6 (by decide)
        have v7 : tl_q N2 T.2.1 0 = q := va 7 (by decide)
        have sp : rf_sp N2 T.2.1 = 1 := by unfold rf_sp; rw [v4]; decide
        refine lw_act I tt e f n2 ref (I.tl.come hM (fun c c0 hc _ => ?_) (by subst hN2; unfold rf_plN; rw [upd_eq]) ?_ ?_) ⟨by omega, by omega⟩ (by omega)
        · subst hN2
          unfold rf_plN
          rw [upd_ne c0, upd_ne (by omega), upd_ne (by omega), upd_ne (by omega), rf_bg_out _ _ _ _ _ _ hc]
        · unfold tl_S
          rw [v0, v1, v2, v3, v5, sp]
          have s1 : sn_far (upd (fun _ => 0) 0 dd) 1 = sn_far (tl_d N2 T.2.1) 1 := by
            show (0 : Int32) + upd (fun _ => 0) 0 dd 0 = 0 + tl_d N2 T.2.1 0
            rw [v6, upd_eq]
          have s2 : sn_sum 0 (upd (fun _ => 0) 0 dd) (upd (fun _ => 0) 0 q) 1 = sn_sum 0 (tl_d N2 T.2.1) (tl_q N2 T.2.1) 1 := by
            show (0 : Int32) + upd (fun _ => 0) 0 dd 0 * upd (fun _ => 0) 0 q 0 = 0 + tl_d N2 T.2.1 0 * tl_q N2 T.2.1 0
            rw [v6, v7, upd_eq, upd_eq]
          have s3 : ∀ (u v : Nat → Int32), u 0 = v 0 → sn_dn (rf_o (b < a)) 1 u 1 = sn_dn (rf_o (b < a)) 1 v 1 := by
            intro u v huv
            funext j
            unfold sn_dn
            by_cases z : rf_o (b < a) = 0
            · rw [if_pos z, if_pos z]
              by_cases y : 1 - 1 ≤ j ∧ j < 1
              · rw [if_pos y, if_pos y, show 1 - 1 - j = 0 by omega, huv]
              · rw [if_neg y, if_neg y]
            · rw [if_neg z, if_neg z]
              by_cases y : j < 1
              · rw [if_pos y, if_pos y, show j = 0 by omega, huv]
              · rw [if_neg y, if_neg y]
          unfold sn_S
          rw [s1, s2, s3 (upd (fun _ => 0) 0 dd) (tl_d N2 T.2.1) (by rw [v6, upd_eq]), s3 (upd (fun _ => 0) 0 q) (tl_q N2 T.2.1) (by rw [v7, upd_eq])]
        · refine ⟨by rw [v1]; exact h01, by rw [v3]; exact b1, ⟨by rw [v4, sp]; rfl, by rw [sp]; decide⟩, Or.inr (Or.inr ⟨Or.inl v0, by rw [sp]; decide, v5, by rw [v2]; exact hw, fun j hj => ?_⟩)⟩
          rw [sp] at hj
          obtain rfl : j = 0 := by omega
          rw [v6, v7]
          refine ⟨d2, b4, ?_⟩
          show 0 ≤ (if N2 (2 + 24 * T.2.1 + 1) = 1 then (N2 (2 + 24 * T.2.1 + 3)).toInt - (tl_d N2 T.2.1 0).toInt else (N2 (2 + 24 * T.2.1 + 3)).toInt + (tl_d N2 T.2.1 0).toInt) ∧ (if N2 (2 + 24 * T.2.1 + 1) = 1 then (N2 (2 + 24 * T.2.1 + 3)).toInt - (tl_d N2 T.2.1 0).toInt else (N2 (2 + 24 * T.2.1 + 3)).toInt + (tl_d N2 T.2.1 0).toInt) ≤ 2000
          rw [v1, v3, v6, d3]
          by_cases z : b < a
          · rw [rf_ot z, if_pos rfl, if_pos z]
            omega
          · rw [rf_of z, if_neg (by decide), if_neg z]
            omega
      · exact lw_no I (kc_plain_3 I.cn w a b q hM hw hb) (rc_plain_3 56 R w a b q T.2.1 hM (lw_M I) hw hb)
    · have := kc_plain_12 (nx := nx) (s := s) I.cn w a b q (by rw [rf_ot hw]; unfold kn_st; rw [if_neg (by decide), if_neg hM]; decide)
      rw [rf_ot hw] at this
      unfold kn_st at this
      rw [if_neg (by decide), if_neg hM] at this
      exact lw_no I this (rc_plain_2 56 R w a b q hw (by rw [lw_M I, show T.2.1 = 12 by omega]))
  · have := kc_plain_12 (nx := nx) (s := s) I.cn w a b q (by rw [rf_of hw]; unfold kn_st; rw [if_pos rfl]; decide)
    rw [rf_of hw] at this
    unfold kn_st at this
    rw [if_pos rfl] at this
    exact lw_no I this (rc_plain_1 56 R w a b q hw)
end
