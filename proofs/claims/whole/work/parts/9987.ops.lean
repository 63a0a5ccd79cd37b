/-! calls: bent -/
theorem sn_far_c {u v : Nat → Int32} : ∀ n, (∀ j, j < n → u j = v j) → sn_far u n = sn_far v n
  | 0, _ => rfl
  | n + 1, h => by
    unfold sn_far
    rw [sn_far_c n (fun j hj => h j (by omega)), h n (by omega)]
theorem sn_sum_c {a : Int32} {u v u2 v2 : Nat → Int32} : ∀ n, (∀ j, j < n → u j = v j) → (∀ j, j < n → u2 j = v2 j) → sn_sum a u u2 n = sn_sum a v v2 n
  | 0, _, _ => rfl
  | n + 1, h, h2 => by
    unfold sn_sum
    rw [sn_sum_c n (fun j hj => h j (by omega)) (fun j hj => h2 j (by omega)), h n (by omega), h2 n (by omega)]
theorem sn_dn_c {hot : Int32} {u v : Nat → Int32} {n : Nat} (h : ∀ j, j < n → u j = v j) : sn_dn hot n u n = sn_dn hot n v n := by
  funext j
  unfold sn_dn
  by_cases z : hot = 0
  · rw [if_pos z, if_pos z]
    by_cases y : n - n ≤ j ∧ j < n
    · rw [if_pos y, if_pos y, h _ (by omega)]
    · rw [if_neg y, if_neg y]
  · rw [if_neg z, if_neg z]
    by_cases y : j < n
    · rw [if_pos y, if_pos y, h _ y]
    · rw [if_neg y, if_neg y]
theorem sn_S_c {kd hot w f am : Int32} {n : Nat} {u v u2 v2 : Nat → Int32} (h : ∀ j, j < n → u j = v j) (h2 : ∀ j, j < n → u2 j = v2 j) : sn_S kd hot w f am n u u2 = sn_S kd hot w f am n v v2 := by
  unfold sn_S
  rw [sn_far_c n h, sn_sum_c n h h2, sn_dn_c h, sn_dn_c h2]
theorem bn_c {N f : Nat → Int32} {a : Nat} {hot : Int32} : ∀ d k w, (∀ j, k ≤ j → j < k + d → N (a + j) = f (0 + j)) → bn_ok N a hot d k w = bn_ok f 0 hot d k w
  | 0, _, _, _ => rfl
  | d + 1, k, w, h => by
    unfold bn_ok
    rw [h k (Nat.le_refl _) (by omega)]
    by_cases z : (1 ≤ (f (0 + k)).toInt ∧ (f (0 + k)).toInt ≤ if k % 2 = 0 then 500 else 1000) ∧ (0 ≤ (bn_w hot w (f (0 + k)) k).toInt ∧ (bn_w hot w (f (0 + k)) k).toInt ≤ 2000)
    · rw [if_pos z, if_pos z]
      exact bn_c d (k + 1) _ (fun j h1 h2 => h j (by omega) (by omega))
    · rw [if_neg z, if_neg z]
theorem bn_e {N f : Nat → Int32} {M : Nat} {hot : Int32} (eh : N (2 + 24 * M + 1) = hot) (h01 : hot = 0 ∨ hot = 1) : ∀ n j w, bn_ok f 0 hot (2 * n) (2 * j) w = true → (0 ≤ w.toInt ∧ w.toInt ≤ 2000) → tl_e N M j = w.toInt → (∀ i, i < j + n → tl_d N M i = f (2 * i) ∧ tl_q N M i = f (2 * i + 1)) → ∀ i, j ≤ i → i < j + n → 1 ≤ (tl_d N M i).toInt ∧ (1 ≤ (tl_q N M i).toInt ∧ (tl_q N M i).toInt ≤ 1000) ∧ (0 ≤ tl_e N M (i + 1) ∧ tl_e N M (i + 1) ≤ 2000)
  | 0, j, w, _, _, _, _ => fun i h1 h2 => absurd h2 (by omega)
  | n + 1, j, w, hb, hw, he, hf => by
    rw [show 2 * (n + 1) = 2 * n + 1 + 1 by omega] at hb
    unfold bn_ok at hb
    obtain ⟨d1, q1⟩ := hf j (by omega)
    rw [Nat.zero_add] at hb
    by_cases z : (1 ≤ (f (2 * j)).toInt ∧ (f (2 * j)).toInt ≤ if 2 * j % 2 = 0 then 500 else 1000) ∧ (0 ≤ (bn_w hot w (f (2 * j)) (2 * j)).toInt ∧ (bn_w hot w (f (2 * j)) (2 * j)).toInt ≤ 2000)
    · rw [if_pos z] at hb
      rw [if_pos (show 2 * j % 2 = 0 by omega)] at z
      generalize hw2 : bn_w hot w (f (2 * j)) (2 * j) = w2 at hb z
      unfold bn_ok at hb
      rw [Nat.zero_add] at hb
      have e2 : bn_w hot w2 (f (2 * j + 1)) (2 * j + 1) = w2 := by
        unfold bn_w
        rw [if_neg (by omega)]
      rw [e2] at hb
      by_cases y : (1 ≤ (f (2 * j + 1)).toInt ∧ (f (2 * j + 1)).toInt ≤ if (2 * j + 1) % 2 = 0 then 500 else 1000) ∧ (0 ≤ w2.toInt ∧ w2.toInt ≤ 2000)
      · rw [if_pos y] at hb
        rw [if_neg (show ¬ (2 * j + 1) % 2 = 0 by omega)] at y
        have ee : tl_e N M (j + 1) = w2.toInt := by
          unfold tl_e
          rw [eh, d1, he, ← hw2]
          unfold bn_w
          rw [if_pos (show 2 * j % 2 = 0 by omega)]
          rcases h01 with rfl | rfl
          · rw [if_neg (show ¬ (0 : Int32) = 1 by decide), if_pos rfl, Int32.toInt_add]
            exact (Int.bmod_eq_of_le (by omega) (by omega)).symm
          · rw [if_pos rfl, if_neg (show ¬ (1 : Int32) = 0 by decide), ← Int32.sub_eq_add_neg, Int32.toInt_sub]
            exact (Int.bmod_eq_of_le (by omega) (by omega)).symm
        have ih := bn_e eh h01 n (j + 1) w2 (by rw [show 2 * (j + 1) = 2 * j + 1 + 1 by omega]; exact hb) z.2 ee (fun i hi => hf i (by omega))
        intro i h1 h2
        by_cases x : i = j
        · subst x
          rw [d1, q1, ee]
          exact ⟨z.1.1, y.1, z.2⟩
        · exact ih i (by omega) (by omega)
      · rw [if_neg y] at hb
        cases hb
    · rw [if_neg z] at hb
      cases hb
section
variable {L : Nat} {xs : Nat → Int32} {k : Nat} {h : jx_H} {W : cw} {g : Nat → Option jx_E} {nx s : Nat} {X : Nat → Option jx_E} {R : rf_R} {B D U x : Nat} {T : tv}
theorem op_bent (w b f sh sp : Int32) : lw_o (lw_K L xs) L xs 101 148 [.int w, .int (rf_o (¬ b = 0)), .int f, .int sh, .int sp] true := by
  intro k h p
  obtain ⟨W, g, nx, s, X, R, B, D, U, x, T, I⟩ := p
  have h78 := I.nx78
  have hM12 := I.tl.1.2.1
  have eM := lw_M I
  have h01 := lw_01 b
  generalize rf_o (¬ b = 0) = hot at h01 ⊢
  have eh : rf_o (¬ hot = 0) = hot := by
    rcases h01 with rfl | rfl <;> decide
  by_cases hb : (0 ≤ w.toInt ∧ w.toInt ≤ 2) ∧ (0 ≤ sh.toInt ∧ sh.toInt ≤ 7)
  · by_cases hM : T.2.1 < 12
    · obtain ⟨c, c7, rfl⟩ := lw_nat (n := 7) hb.2
      by_cases hr : (0 ≤ f.toInt ∧ f.toInt ≤ 2000) ∧ (1 ≤ sp.toInt ∧ sp.toInt ≤ 8)
      · obtain ⟨p, p8, rfl⟩ := lw_nat (a := sp) (n := 8) ⟨by omega, hr.2.2⟩
        have hp1 : 1 ≤ p := by
          have := hr.2.1
          rw [nI_toInt (by omega)] at this
          omega
        have ec : (nI p).toNatClampNeg = p := nI_clamp (by omega)
        rcases I.tl.2.2.1 c (by omega) with ⟨e0, z⟩ | ⟨Y, e0, y1, y2, y3, y4, y5⟩
        · have ref := rc_bent 56 R B D I.now.1.1 I.now.1.2.1 I.e2 I.e3 T.2.1 hM eM c 0 (by omega) (by decide) (by unfold rf_fl; rw [if_pos z]; rfl) w hot f (nI p) hb.1
          have ev : rf_btc (R.1 0) c 0 hot f (nI p) = 4 := by
            unfold rf_btc
            rw [if_neg (fun q => q hr), Nat.zero_min, if_neg (by show ¬ true = false; decide), if_pos z]
          rw [ev, if_neg (by decide)] at ref
          exact lw_no I (kc_bent_4 I.cn w hot f c p hM hb.1 (by omega) hr.1 ⟨hp1, p8⟩ e0) ref
        · have nz : ¬ R.1 0 (290 + 18 * c) = -1 := by
            rw [y1]
            intro z
            rw [z] at y2
            exact absurd y2.1 (by decide)
          have ref := rc_bent 56 R B D I.now.1.1 I.now.1.2.1 I.e2 I.e3 T.2.1 hM eM c Y.2.1 (by omega) y4 (by unfold rf_fl; rw [if_neg nz]; exact y3) w hot f (nI p) hb.1
          have eb : bn_ok (R.1 0) (290 + 18 * c + 2) hot (min Y.2.1 (2 * p)) 0 f = bn_ok Y.2.2 0 hot (min Y.2.1 (2 * p)) 0 f := bn_c _ _ _ (fun j _ hj => by rw [Nat.zero_add]; exact (y5 j (by omega)).symm)
          rw [ec] at ref
          unfold rf_btc at ref
          rw [ec, if_neg (fun q => q hr), eb, if_neg nz] at ref
          by_cases hk : bn_ok Y.2.2 0 hot (min Y.2.1 (2 * p)) 0 f = true
          · rw [if_neg (by rw [hk]; decide)] at ref
            by_cases hl : Y.2.1 < 2 * p
            · rw [if_pos hl, if_neg (by decide)] at ref
              exact lw_no I (kc_bent_5 I.cn w hot f c p hM hb.1 (by omega) hr.1 ⟨hp1, p8⟩ e0 y4 hk hl) ref
            · rw [if_neg hl, if_pos rfl] at ref
              obtain ⟨g2, tt, e, fr, n2⟩ := kc_bent (s := s) (by omega) I.free I.now w hot f h01 c p hM hb.1 (by omega) hr.1 ⟨hp1, p8⟩ e0 y4 hk (by omega)
              rw [Nat.min_eq_right (by omega)] at hk
              generalize hN2 : rf_btN (R.1 0) T.2.1 c p w hot f = N2 at ref
              have va : ∀ q, q < 24 → N2 (2 + 24 * T.2.1 + q) = if 6 ≤ q ∧ q < 6 + 2 * p then R.1 0 (290 + 18 * c + 2 + (q - 6)) else if q = 4 then nI p else if q = 0 then 2 else if q = 1 then hot else if q = 2 then w else if q = 3 then f else 0 := by
                intro q hq
                subst hN2
                unfold rf_btN
                rw [upd_ne (by omega)]
                by_cases z : 6 ≤ q ∧ q < 6 + 2 * p
                · rw [if_pos z, rf_put_in (by omega), show 2 + 24 * T.2.1 + q - (2 + 24 * T.2.1 + 6) = q - 6 by omega]
                · rw [if_neg z, rf_put_out (by omega)]
                  by_cases y : q = 4
                  · rw [if_pos y, y, upd_eq]
                  · rw [if_neg y, upd_ne (by omega), rf_bg_at _ _ _ _ _ _ hq, eh]
              have out : ∀ q, ¬ (6 ≤ q ∧ q < 6 + 2 * p) → q < 24 → N2 (2 + 24 * T.2.1 + q) = if q = 4 then nI p else if q = 0 then 2 else if q = 1 then hot else if q = 2 then w else if q = 3 then f else 0 := by
                intro q h1 h2
                rw [va q h2, if_neg h1]
              have v0 : N2 (2 + 24 * T.2.1) = 2 := out 0 (by omega) (by decide)
              have v1 : N2 (2 + 24 * T.2.1 + 1) = hot := out 1 (by omega) (by decide)
              have v2 : N2 (2 + 24 * T.2.1 + 2) = w := out 2 (by omega) (by decide)
              have v3 : N2 (2 + 24 * T.2.1 + 3) = f := out 3 (by omega) (by decide)
              have v4 : N2 (2 + 24 * T.2.1 + 4) = nI p := out 4 (by omega) (by decide)
              have v5 : N2 (2 + 24 * T.2.1 + 5) = 0 := out 5 (by omega) (by decide)
              have spp : rf_sp N2 T.2.1 = p := by unfold rf_sp; rw [v4]; exact ec
              have vd : ∀ i, i < 0 + p → tl_d N2 T.2.1 i = Y.2.2 (2 * i) ∧ tl_q N2 T.2.1 i = Y.2.2 (2 * i + 1) := by
                intro i hi
                unfold tl_d tl_q
                rw [if_pos (by omega), if_pos (by omega), Nat.add_assoc _ 6, Nat.add_assoc _ 7, va _ (by omega), va _ (by omega), if_pos (by omega), if_pos (by omega), y5 _ (by omega), y5 _ (by omega), show 6 + 2 * i - 6 = 2 * i by omega, show 7 + 2 * i - 6 = 2 * i + 1 by omega]
                exact ⟨rfl, rfl⟩
              refine lw_act I tt e fr n2 ref (I.tl.come hM (fun q q0 hq _ => ?_) (by subst hN2; unfold rf_btN; rw [upd_eq]) ?_ ?_) ⟨by omega, by omega⟩ (by omega)
              · subst hN2
                unfold rf_btN
                rw [upd_ne q0, rf_put_out (by omega), upd_ne (by omega), rf_bg_out _ _ _ _ _ _ hq]
              · unfold tl_S
                rw [v0, v1, v2, v3, v5, spp]
                refine sn_S_c (fun j hj => ?_) (fun j hj => ?_)
                · rw [(vd j (by omega)).1]
                  unfold ev_f
                  rw [rf_put_in (by omega), Nat.zero_add, Nat.sub_zero]
                · rw [(vd j (by omega)).2]
                  unfold ev_f
                  rw [rf_put_in (by omega), Nat.sub_zero, Nat.add_comm]
              · refine ⟨by rw [v1]; exact h01, by rw [v3]; exact hr.1, ⟨by rw [v4, spp], by rw [spp]; exact p8⟩, Or.inr (Or.inr ⟨Or.inr v0, by rw [spp]; exact hp1, v5, by rw [v2]; exact hb.1, fun j hj => ?_⟩)⟩
                rw [spp] at hj
                exact bn_e v1 h01 p 0 f hk hr.1 (by show (N2 (2 + 24 * T.2.1 + 3)).toInt = _; rw [v3]) vd j (by omega) (by omega)
          · have hk : bn_ok Y.2.2 0 hot (min Y.2.1 (2 * p)) 0 f = false := by
              cases hx : bn_ok Y.2.2 0 hot (min Y.2.1 (2 * p)) 0 f
              · rfl
              · exact absurd hx hk
            rw [if_pos hk, if_neg (by decide)] at ref
            exact lw_no I (kc_bent_x I.cn w hot f c p hM hb.1 (by omega) hr.1 ⟨hp1, p8⟩ e0 y4 hk) ref
      · have el : ∃ l, l ≤ 16 ∧ rf_fl (R.1 0) c = nI l := by
          unfold rf_fl
          rcases I.tl.2.2.1 c (by omega) with ⟨e0, z⟩ | ⟨Y, e0, y1, y2, y3, y4, y5⟩
          · exact ⟨0, by decide, by rw [if_pos z]; rfl⟩
          · have nz : ¬ R.1 0 (290 + 18 * c) = -1 := by
              rw [y1]
              intro z
              rw [z] at y2
              exact absurd y2.1 (by decide)
            exact ⟨Y.2.1, y4, by rw [if_neg nz]; exact y3⟩
        obtain ⟨l, l16, el⟩ := el
        have ref := rc_bent 56 R B D I.now.1.1 I.now.1.2.1 I.e2 I.e3 T.2.1 hM eM c l (by omega) l16 el w hot f sp hb.1
        unfold rf_btc at ref
        rw [if_pos hr, if_neg (by decide)] at ref
        exact lw_no I (kc_bent_3 I.cn w hot f (nI c) sp hM hb hr) ref
    · have t := kc_bent_12 (nx := nx) (s := s) I.cn w hot f sh sp (by rw [rf_ot hb]; unfold kn_st; rw [if_neg (by decide), if_neg hM]; decide)
      rw [rf_ot hb] at t
      unfold kn_st at t
      rw [if_neg (by decide), if_neg hM] at t
      exact lw_no I t (rc_bent_2 56 R w hot f sh sp hb.1 hb.2 (by rw [eM, show T.2.1 = 12 by omega]))
  · have t := kc_bent_12 (nx := nx) (s := s) I.cn w hot f sh sp (by rw [rf_of hb]; unfold kn_st; rw [if_pos rfl]; decide)
    rw [rf_of hb] at t
    unfold kn_st at t
    rw [if_pos rfl] at t
    exact lw_no I t (rc_bent_1 56 R w hot f sh sp hb)
end
