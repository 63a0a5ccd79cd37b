/-! the reference's levels: levelsOf -/
def rf_jc (R : rf_R) (n : Nat) (v : Int32) : Nat := if rf_pos (R.1 9) v n 0 < n ∧ R.1 9 (rf_pos (R.1 9) v n 0) = v then n else n + 1
theorem rf_jc_le (R : rf_R) (n : Nat) (v : Int32) : rf_jc R n v ≤ n + 1 := by
  unfold rf_jc
  split <;> omega
theorem rf_jn_0 (R : rf_R) (n : Nat) (v : Int32) : (rf_jn R n v).1 0 = R.1 0 := by
  unfold rf_jn
  split
  · rfl
  · rfl
theorem rf_jn_10 (R : rf_R) (n : Nat) (v : Int32) (en : R.2.2.1 10 = nI n) : (rf_jn R n v).2.2.1 10 = nI (rf_jc R n v) := by
  unfold rf_jn rf_jc
  split
  · exact en
  · rfl
/-- nothing but the levels and their number is touched -/
theorem rf_jn_keep (R : rf_R) (n : Nat) (v : Int32) : (∀ k, k ≠ 9 → (rf_jn R n v).1 k = R.1 k) ∧ (rf_jn R n v).2.1 = R.2.1 ∧ (∀ k, k ≠ 10 → (rf_jn R n v).2.2.1 k = R.2.2.1 k) ∧ (rf_jn R n v).2.2.2 = R.2.2.2 := by
  unfold rf_jn
  split
  · exact ⟨fun _ _ => rfl, rfl, fun _ _ => rfl, rfl⟩
  · refine ⟨fun k hk => ?_, rfl, fun k hk => ?_, rfl⟩
    · simp [rf_sI, rf_sA, hk]
    · simp [rf_sI, rf_sA, hk]
/-- the level of a warmth of stream s -/
def rf_lvl (N : Nat → Int32) (s : Nat) (t : Int32) : Int32 := if N (2 + 24 * s + 1) = 1 then t - N 1 else t
def rf_lv (R : rf_R) (n s : Nat) : Nat → rf_R × Nat
  | 0 => (rf_jn R n (rf_lvl (R.1 0) s (rf_end (R.1 0) s 0)), rf_jc R n (rf_lvl (R.1 0) s (rf_end (R.1 0) s 0)))
  | k + 1 => (rf_jn (rf_lv R n s k).1 (rf_lv R n s k).2 (rf_lvl (R.1 0) s (rf_end (R.1 0) s (k + 1))), rf_jc (rf_lv R n s k).1 (rf_lv R n s k).2 (rf_lvl (R.1 0) s (rf_end (R.1 0) s (k + 1))))
theorem rf_lv_ok (R : rf_R) (n s : Nat) (en : R.2.2.1 10 = nI n) : ∀ k, (rf_lv R n s k).1.1 0 = R.1 0 ∧ (rf_lv R n s k).1.2.2.1 10 = nI (rf_lv R n s k).2 ∧ (rf_lv R n s k).2 ≤ n + k + 1
  | 0 => ⟨rf_jn_0 _ _ _, rf_jn_10 _ _ _ en, rf_jc_le _ _ _⟩
  | k + 1 => by
    obtain ⟨h1, h2, h3⟩ := rf_lv_ok R n s en k
    refine ⟨(rf_jn_0 _ _ _).trans h1, rf_jn_10 _ _ _ h2, ?_⟩
    have := rf_jc_le (rf_lv R n s k).1 (rf_lv R n s k).2 (rf_lvl (R.1 0) s (rf_end (R.1 0) s (k + 1)))
    show rf_jc _ _ _ ≤ _
    omega
theorem rc_levelsOf (r : Nat) (R : rf_R) (n s p : Nat) (hs : s < 12) (hp : p ≤ 8) (ep : R.1 0 (2 + 24 * s + 4) = nI p) (en : R.2.2.1 10 = nI n) (hn : n + p < 130) : rf_C 162 r [.ref r, .int (nI s)] R none (rf_lv R n s p).1 := by
  have loop : ∀ (d k : Nat), k + d = p → ∀ h, rf_At r (rf_lv R n s k).1 h → rf_G r 162 19 [.ref r, .int (nI s), .int (rf_end (R.1 0) s k), .int (nI k)] [] h none (rf_lv R n s p).1 := by
    intro d
    induction d with
    | zero =>
      intro k hk h H
      obtain rfl : k = p := by omega
      obtain ⟨g1, g2, g3⟩ := rf_lv_ok R n s en k
      refine rf_G.step (pc' := 20) (st' := [_]) rfl rfl ?_
      refine rf_G.step (pc' := 21) (st' := [_, _]) rfl rfl ?_
      refine rf_G.step (pc' := 22) (st' := [_, _, _]) rfl rfl ?_
      refine rf_G.step (pc' := 23) (st' := [_, _, _, _]) rfl rfl ?_
      refine rf_G.v2I H rfl (by decide) rfl ⟨Nat.le_of_ble_eq_true rfl, rfl⟩ (Nat.le_of_ble_eq_true rfl) (rc_of r (rf_lv R n s k).1 s 4 hs (by decide)) (fun h H => ?_)
      rw [g1, ep]
      refine rf_G.bc rfl (jx_br_ge _ _) (fun _ => ?_) (fun q => absurd (Int32.le_refl _) q)
      exact rf_G.ret H rfl rfl
    | succ d ih =>
      intro k hk h H
      obtain ⟨g1, g2, g3⟩ := rf_lv_ok R n s en k
      refine rf_G.step (pc' := 20) (st' := [_]) rfl rfl ?_
      refine rf_G.step (pc' := 21) (st' := [_, _]) rfl rfl ?_
      refine rf_G.step (pc' := 22) (st' := [_, _, _]) rfl rfl ?_
      refine rf_G.step (pc' := 23) (st' := [_, _, _, _]) rfl rfl ?_
      refine rf_G.v2I H rfl (by decide) rfl ⟨Nat.le_of_ble_eq_true rfl, rfl⟩ (Nat.le_of_ble_eq_true rfl) (rc_of r (rf_lv R n s k).1 s 4 hs (by decide)) (fun h H => ?_)
      rw [g1, ep]
      refine rf_G.bc rfl (jx_br_ge _ _) (fun q => absurd q (nI_ge (by omega) (by omega))) (fun _ => ?_)
      have e6 : (6 : Int32) + 2 * nI k = nI (6 + 2 * k) := by rw [rf_lit 6, rf_lit 2, pk_mul, nI_add]
      have tail : ∀ h, rf_At r (rf_lv R n s k).1 h → rf_G r 162 68 [.ref r, .int (nI s), .int (rf_end (R.1 0) s (k + 1)), .int (nI k)] [] h none (rf_lv R n s p).1 := by
        intro h H
        have cl := rc_levelAt r (rf_lv R n s k).1 s hs (rf_end (R.1 0) s (k + 1))
        rw [g1] at cl
        have cj := rc_joins r (rf_lv R n s k).1 (rf_lv R n s k).2 (by omega) g2 (rf_lvl (R.1 0) s (rf_end (R.1 0) s (k + 1)))
        refine rf_G.step (pc' := 69) (st' := [_]) rfl rfl ?_
        refine rf_G.step (pc' := 70) (st' := [_, _]) rfl rfl ?_
        refine rf_G.step (pc' := 71) (st' := [_, _, _]) rfl rfl ?_
        refine rf_G.step (pc' := 72) (st' := [_, _, _, _]) rfl rfl ?_
        refine rf_G.v2I H rfl (by decide) rfl ⟨Nat.le_of_ble_eq_true rfl, rfl⟩ (Nat.le_of_ble_eq_true rfl) (cl) (fun h H => ?_)
        refine rf_G.v1V H rfl (by decide) rfl ⟨Nat.le_of_ble_eq_true rfl, rfl⟩ (Nat.le_of_ble_eq_true rfl) (cj) (fun h H => ?_)
        refine rf_G.step (pc' := 81) (ls' := [_, _, _, _]) (st' := []) rfl rfl ?_
        refine rf_G.step (pc' := 19) (st' := []) rfl rfl ?_
        rw [nI_1]
        exact ih (k + 1) (by omega) h H
      refine rf_G.step (pc' := 30) (st' := [_]) rfl rfl ?_
      refine rf_G.step (pc' := 31) (st' := [_, _]) rfl rfl ?_
      refine rf_G.step (pc' := 32) (st' := [_, _, _]) rfl rfl ?_
      refine rf_G.step (pc' := 33) (st' := [_, _, _, _]) rfl rfl ?_
      refine rf_G.v2I H rfl (by decide) rfl ⟨Nat.le_of_ble_eq_true rfl, rfl⟩ (Nat.le_of_ble_eq_true rfl) (rc_of r (rf_lv R n s k).1 s 1 hs (by decide)) (fun h H => ?_)
      refine rf_G.step (pc' := 37) (st' := [_, _, _]) rfl rfl ?_
      rw [g1]
      refine rf_G.bcn rfl (fun q => ?_) (fun q => ?_)
      · refine rf_G.step (pc' := 56) (st' := [_, _]) rfl rfl ?_
        refine rf_G.step (pc' := 57) (st' := [_, _, _]) rfl rfl ?_
        refine rf_G.step (pc' := 59) (st' := [_, _, _, _]) rfl rfl ?_
        refine rf_G.step (pc' := 60) (st' := [_, _, _, _, _]) rfl rfl ?_
        refine rf_G.step (pc' := 61) (st' := [_, _, _, _, _, _]) rfl rfl ?_
        refine rf_G.step (pc' := 62) (st' := [_, _, _, _, _]) rfl rfl ?_
        refine rf_G.step (pc' := 63) (st' := [_, _, _, _]) rfl rfl ?_
        rw [e6]
        refine rf_G.v2I H rfl (by decide) rfl ⟨Nat.le_of_ble_eq_true rfl, rfl⟩ (Nat.le_of_ble_eq_true rfl) (rc_of r (rf_lv R n s k).1 s (6 + 2 * k) hs (by omega)) (fun h H => ?_)
        rw [g1]
        refine rf_G.step (pc' := 67) (st' := [_]) rfl rfl ?_
        refine rf_G.step (pc' := 68) (ls' := [_, _, _, _]) (st' := []) rfl rfl ?_
        have t := tail h H
        rw [show rf_end (R.1 0) s (k + 1) = rf_end (R.1 0) s k + R.1 0 (2 + 24 * s + (6 + 2 * k)) by rw [rf_end, if_neg q]] at t
        exact t
      · refine rf_G.step (pc' := 41) (st' := [_, _]) rfl rfl ?_
        refine rf_G.step (pc' := 42) (st' := [_, _, _]) rfl rfl ?_
        refine rf_G.step (pc' := 44) (st' := [_, _, _, _]) rfl rfl ?_
        refine rf_G.step (pc' := 45) (st' := [_, _, _, _, _]) rfl rfl ?_
        refine rf_G.step (pc' := 46) (st' := [_, _, _, _, _, _]) rfl rfl ?_
        refine rf_G.step (pc' := 47) (st' := [_, _, _, _, _]) rfl rfl ?_
        refine rf_G.step (pc' := 48) (st' := [_, _, _, _]) rfl rfl ?_
        rw [e6]
        refine rf_G.v2I H rfl (by decide) rfl ⟨Nat.le_of_ble_eq_true rfl, rfl⟩ (Nat.le_of_ble_eq_true rfl) (rc_of r (rf_lv R n s k).1 s (6 + 2 * k) hs (by omega)) (fun h H => ?_)
        rw [g1]
        refine rf_G.step (pc' := 52) (st' := [_, _]) rfl rfl ?_
        refine rf_G.step (pc' := 66) (st' := [_, _]) rfl rfl ?_
        refine rf_G.step (pc' := 67) (st' := [_]) rfl rfl ?_
        refine rf_G.step (pc' := 68) (ls' := [_, _, _, _]) (st' := []) rfl rfl ?_
        have t := tail h H
        rw [show rf_end (R.1 0) s (k + 1) = rf_end (R.1 0) s k + -(R.1 0 (2 + 24 * s + (6 + 2 * k))) by rw [rf_end, if_pos q]] at t
        exact t
  intro h H
  show rf_G r 162 0 [.ref r, .int (nI s), .retAddr 0, .retAddr 0] [] h _ _
  have cl := rc_levelAt r R s hs (R.1 0 (2 + 24 * s + 3))
  have cj := rc_joins r R n (by omega) en (rf_lvl (R.1 0) s (R.1 0 (2 + 24 * s + 3)))
  refine rf_G.step (pc' := 1) (st' := [_]) rfl rfl ?_
  refine rf_G.step (pc' := 2) (st' := [_, _]) rfl rfl ?_
  refine rf_G.step (pc' := 3) (st' := [_, _, _]) rfl rfl ?_
  refine rf_G.v2I H rfl (by decide) rfl ⟨Nat.le_of_ble_eq_true rfl, rfl⟩ (Nat.le_of_ble_eq_true rfl) (rc_of r R s 3 hs (by decide)) (fun h H => ?_)
  refine rf_G.step (pc' := 7) (ls' := [_, _, _, _]) (st' := []) rfl rfl ?_
  refine rf_G.step (pc' := 8) (st' := [_]) rfl rfl ?_
  refine rf_G.step (pc' := 9) (st' := [_, _]) rfl rfl ?_
  refine rf_G.step (pc' := 10) (st' := [_, _, _]) rfl rfl ?_
  refine rf_G.step (pc' := 11) (st' := [_, _, _, _]) rfl rfl ?_
  refine rf_G.v2I H rfl (by decide) rfl ⟨Nat.le_of_ble_eq_true rfl, rfl⟩ (Nat.le_of_ble_eq_true rfl) (cl) (fun h H => ?_)
  refine rf_G.v1V H rfl (by decide) rfl ⟨Nat.le_of_ble_eq_true rfl, rfl⟩ (Nat.le_of_ble_eq_true rfl) (cj) (fun h H => ?_)
  refine rf_G.step (pc' := 18) (st' := [_]) rfl rfl ?_
  refine rf_G.step (pc' := 19) (ls' := [_, _, _, _]) (st' := []) rfl rfl ?_
  exact loop p 0 (by omega) h H
