/-! calls: undo redo plain still bought -/
section
variable {L : Nat} {xs : Nat → Int32} {k : Nat} {h : jx_H} {W : cw} {g : Nat → Option jx_E} {nx s : Nat} {X : Nat → Option jx_E} {R : rf_R} {B D U x : Nat} {T : tv}
/-- both stand at another place of their rings -/
theorem lw_mv (I : lw_I L xs k h W g nx s X R B D U x T) {mc mr D2 U2 : Nat} {args : List Value} {W2 : cw} {N2 : Nat → Int32} (t : jx_T mc 0 (jx_ent mc (.ref 1 :: args)) [] (hc W g nx s) (some (.int 0)) (hc W2 g nx s)) (c : rf_C mr 56 (.ref 56 :: args) R (some (.int 0)) (rf_sA (rf_sI (rf_sI R 3 (nI D2)) 4 (nI U2)) 0 N2)) (w1 : W2.2.2.1 1 1 = W.2.2.1 1 1) (w2 : W2.2.2.1 1 2 = nI D2) (w3 : W2.2.2.1 1 3 = nI U2) (w9 : W2.2.2.1 1 9 = W.2.2.1 1 9) (wl : W2.2.1 = W.2.1) (wr : W2.2.2.2.2.1 = W.2.2.2.2.1) (hD : D2 + U2 = D + U) (hN : ∀ c, c < 822 → N2 c = R.1 1 (rf_pl B D2 + c)) : lw_C (lw_K L xs) L xs k h mc mr args true := by
  obtain ⟨t1, ho, A1⟩ := I.cls t
  obtain ⟨X2, t2, o2, A2⟩ := lw_ref ho I.only A1 c
  have h1 := I.cells
  have h2 := I.slots
  have hU := I.hU
  have sc2 : lw_sc L xs (ju (hc W2 g nx s) X) := ⟨by rw [ju_0 (Or.inr rfl), I.script], ⟨_, rfl⟩, ⟨_, A1.1⟩⟩
  obtain ⟨a, a1, a2, a3⟩ := I.asked
  obtain ⟨y, Ty, b1, b2, b3⟩ := I.ring D2 (by omega)
  have tl2 : tls Ty N2 := b3.c hN
  refine ⟨.int 0, _, _, Or.inl ⟨rfl, 0, rfl⟩, t1, sc2, t2, W2, g, nx, s, X2, _, B, D2, U2, y, Ty, rfl, I.nx78, I.free, ho, o2, I.script, A2, ⟨⟨I.now.1.1, by omega, w1.trans I.now.1.2.2.1, w2, by rw [wr]; exact b1⟩, b2, tl2.tvo⟩, tl2, I.e2, rfl, rfl, w3, by omega, fun j hj => ?_, ⟨a, a1, w9.trans a2, a3⟩, fun w => ?_, I.e6, I.e28, by omega, by omega⟩
  · obtain ⟨y, Tj, b1, b2, b3⟩ := I.ring j (by omega)
    exact ⟨y, Tj, by rw [wr]; exact b1, b2, b3⟩
  · rw [wl]
    exact I.found w
theorem op_undo : lw_o (lw_K L xs) L xs 107 131 [] true := by
  intro k h p
  obtain ⟨W, g, nx, s, X, R, B, D, U, x, T, I⟩ := p
  have hU := I.hU
  cases D with
  | zero => exact lw_no I (kc_undo_no nx s I.now.1.2.2.2.1) (rc_undo_no 56 R I.e3)
  | succ D => exact lw_mv I (D2 := D) (U2 := U + 1) (kc_undo nx s D U (by omega) I.now.1.2.2.2.1 I.eU) (rc_undo 56 R B D U I.now.1.1 (by omega) (by omega) I.e2 I.e3 I.e4) rfl rfl rfl rfl rfl rfl (by omega) (fun c hc => by rw [rf_put_in (by omega), Nat.sub_zero])
theorem op_redo : lw_o (lw_K L xs) L xs 108 133 [] true := by
  intro k h p
  obtain ⟨W, g, nx, s, X, R, B, D, U, x, T, I⟩ := p
  have hU := I.hU
  cases U with
  | zero => exact lw_no I (kc_redo_no nx s I.eU) (rc_redo_no 56 R I.e4)
  | succ U => exact lw_mv I (D2 := D + 1) (U2 := U) (kc_redo nx s D U (by omega) I.eU I.now.1.2.2.2.1) (rc_redo 56 R B D U I.now.1.1 (by omega) (by omega) I.e2 I.e3 I.e4) rfl rfl rfl rfl rfl rfl (by omega) (fun c hc => by rw [rf_put_in (by omega), Nat.sub_zero])
theorem lw_M (I : lw_I L xs k h W g nx s X R B D U x T) : R.1 0 0 = nI T.2.1 := I.tl.1.1
theorem op_still (w b t q : Int32) : lw_o (lw_K L xs) L xs 100 147 [.int w, .int (rf_o (¬ b = 0)), .int t, .int q] true := by
  intro k h p
  obtain ⟨W, g, nx, s, X, R, B, D, U, x, T, I⟩ := p
  have h78 := I.nx78
  have hM12 := I.tl.1.2.1
  have h01 : rf_o (¬ b = 0) = 0 ∨ rf_o (¬ b = 0) = 1 := by
    by_cases z : b = 0
    · exact Or.inl (rf_of (fun q => q z))
    · exact Or.inr (rf_ot z)
  generalize rf_o (¬ b = 0) = hot at h01 ⊢
  by_cases hw : 0 ≤ w.toInt ∧ w.toInt ≤ 2
  · by_cases hM : T.2.1 < 12
    · by_cases hb : (0 ≤ t.toInt ∧ t.toInt ≤ 2000) ∧ (1 ≤ q.toInt ∧ q.toInt ≤ 1000000)
      · obtain ⟨g2, tt, e, f, n2⟩ := kc_still (s := s) (by omega) I.free I.now w hot t q h01 hM hw hb.1 hb.2
        have eh : rf_o (¬ hot = 0) = hot := by
          rcases h01 with rfl | rfl <;> decide
        have b0 : ∀ N : Nat → Int32, rf_bg N T.2.1 1 hot w t = upd (upd (upd (upd (rf_put N (fun _ => 0) (2 + 24 * T.2.1) 24) (2 + 24 * T.2.1) 1) (2 + 24 * T.2.1 + 1) hot) (2 + 24 * T.2.1 + 2) w) (2 + 24 * T.2.1 + 3) t := by
          intro N
          unfold rf_bg
          rw [eh]
        have ref := rc_still 56 R B D I.now.1.1 I.now.1.2.1 I.e2 I.e3 w hot t q T.2.1 hM (lw_M I) hw hb.1 hb.2
        rw [b0] at ref
        generalize hN2 : upd (upd (upd (upd (upd (upd (rf_put (R.1 0) (fun _ => 0) (2 + 24 * T.2.1) 24) (2 + 24 * T.2.1) 1) (2 + 24 * T.2.1 + 1) hot) (2 + 24 * T.2.1 + 2) w) (2 + 24 * T.2.1 + 3) t) (2 + 24 * T.2.1 + 5) q) 0 (nI (T.2.1 + 1)) = N2 at ref
        have v0 : N2 (2 + 24 * T.2.1) = 1 := by subst hN2; rw [upd_ne (by omega), upd_ne (by omega), upd_ne (by omega), upd_ne (by omega), upd_ne (by omega), upd_eq]
        have v1 : N2 (2 + 24 * T.2.1 + 1) = hot := by subst hN2; rw [upd_ne (by omega), upd_ne (by omega), upd_ne (by omega), upd_ne (by omega), upd_eq]
        have v2 : N2 (2 + 24 * T.2.1 + 2) = w := by subst hN2; rw [upd_ne (by omega), upd_ne (by omega), upd_ne (by omega), upd_eq]
        have v3 : N2 (2 + 24 * T.2.1 + 3) = t := by subst hN2; rw [upd_ne (by omega), upd_ne (by omega), upd_eq]
        have v4 : N2 (2 + 24 * T.2.1 + 4) = 0 := by subst hN2; rw [upd_ne (by omega), upd_ne (by omega), upd_ne (by omega), upd_ne (by omega), upd_ne (by omega), upd_ne (by omega), rf_put_in (by omega)]
        have v5 : N2 (2 + 24 * T.2.1 + 5) = q := by subst hN2; rw [upd_ne (by omega), upd_eq]
        have sp : rf_sp N2 T.2.1 = 0 := by unfold rf_sp; rw [v4]; decide
        refine lw_act I tt e f n2 ref (I.tl.come hM (fun c c0 hc _ => ?_) (by subst hN2; rw [upd_eq]) ?_ ?_) ⟨by omega, by omega⟩ (by omega)
        · subst hN2
          rw [upd_ne c0, upd_ne (by omega), upd_ne (by omega), upd_ne (by omega), upd_ne (by omega), upd_ne (by omega), rf_put_out (by omega)]
        · unfold tl_S
          rw [v0, v1, v2, v3, v5, sp]
          unfold sn_S
          congr 1
        · exact ⟨by rw [v1]; exact h01, by rw [v3]; exact hb.1, ⟨by rw [v4, sp]; rfl, by rw [sp]; decide⟩, Or.inl ⟨v0, sp, by rw [v5]; exact hb.2, by rw [v2]; exact hw⟩⟩
      · exact lw_no I (kc_still_3 I.cn w hot t q hM hw hb) (rc_still_3 56 R w hot t q T.2.1 hM (lw_M I) hw hb)
    · have := kc_still_12 (nx := nx) (s := s) I.cn w hot t q (by rw [rf_ot hw]; unfold kn_st; rw [if_neg (by decide), if_neg hM]; decide)
      rw [rf_ot hw] at this
      unfold kn_st at this
      rw [if_neg (by decide), if_neg hM] at this
      exact lw_no I this (rc_still_2 56 R w hot t q hw (by rw [lw_M I, show T.2.1 = 12 by omega]))
  · have := kc_still_12 (nx := nx) (s := s) I.cn w hot t q (by rw [rf_of hw]; unfold kn_st; rw [if_pos rfl]; decide)
    rw [rf_of hw] at this
    unfold kn_st at this
    rw [if_pos rfl] at this
    exact lw_no I this (rc_still_1 56 R w hot t q hw)
end
