/-! the reference: above, line, count, leastWith, engine, carrier -/
def rf_ab (N : Nat → Int32) (s : Nat) (lv : Int32) : Int64 := if N (2 + 24 * s) = 1 then (if rf_lvl N s (N (2 + 24 * s + 3)) < lv then 0 else (N (2 + 24 * s + 5)).toInt64) else rf_bw N s 100000 lv (rf_sp N s)
theorem rc_above (r : Nat) (R : rf_R) (s : Nat) (hs : s < 12) (hp : rf_sp (R.1 0) s ≤ 8) (ep : R.1 0 (2 + 24 * s + 4) = nI (rf_sp (R.1 0) s)) (lv : Int32) : rf_C 176 r [.ref r, .int (nI s), .int lv] R (some (.long (rf_ab (R.1 0) s lv))) R := by
  intro h H
  show rf_G r 176 0 [.ref r, .int (nI s), .int lv] [] h _ _
  unfold rf_ab
  refine rf_G.step (pc' := 1) (st' := [_]) rfl rfl ?_
  refine rf_G.step (pc' := 2) (st' := [_, _]) rfl rfl ?_
  refine rf_G.step (pc' := 3) (st' := [_, _, _]) rfl rfl ?_
  refine rf_G.v2I H rfl (by decide) rfl ⟨Nat.le_of_ble_eq_true rfl, rfl⟩ (Nat.le_of_ble_eq_true rfl) (rc_of r R s 0 hs (by decide)) (fun h H => ?_)
  refine rf_G.step (pc' := 7) (st' := [_, _]) rfl rfl ?_
  rw [Nat.add_zero]
  refine rf_G.bcn rfl (fun z => ?_) (fun z => ?_)
  · rw [if_neg z]
    refine rf_G.step (pc' := 38) (st' := [_]) rfl rfl ?_
    refine rf_G.step (pc' := 39) (st' := [_, _]) rfl rfl ?_
    refine rf_G.step (pc' := 41) (st' := [_, _, _]) rfl rfl ?_
    refine rf_G.step (pc' := 42) (st' := [_, _, _, _]) rfl rfl ?_
    refine rf_G.v3I H rfl (by decide) rfl ⟨Nat.le_of_ble_eq_true rfl, rfl⟩ (Nat.le_of_ble_eq_true rfl) (rc_between r R s _ hs hp ep 100000 lv) (fun h H => ?_)
    exact rf_G.ret H rfl rfl
  · rw [if_pos z]
    have cl := rc_levelAt r R s hs (R.1 0 (2 + 24 * s + 3))
    refine rf_G.step (pc' := 11) (st' := [_]) rfl rfl ?_
    refine rf_G.step (pc' := 12) (st' := [_, _]) rfl rfl ?_
    refine rf_G.step (pc' := 13) (st' := [_, _, _]) rfl rfl ?_
    refine rf_G.step (pc' := 14) (st' := [_, _, _, _]) rfl rfl ?_
    refine rf_G.step (pc' := 15) (st' := [_, _, _, _, _]) rfl rfl ?_
    refine rf_G.v2I H rfl (by decide) rfl ⟨Nat.le_of_ble_eq_true rfl, rfl⟩ (Nat.le_of_ble_eq_true rfl) (rc_of r R s 3 hs (by decide)) (fun h H => ?_)
    refine rf_G.v2I H rfl (by decide) rfl ⟨Nat.le_of_ble_eq_true rfl, rfl⟩ (Nat.le_of_ble_eq_true rfl) (cl) (fun h H => ?_)
    refine rf_G.step (pc' := 22) (st' := [_, _]) rfl rfl ?_
    refine rf_G.bc rfl (jx_br_lt _ _) (fun y => ?_) (fun y => ?_)
    · rw [if_pos (show rf_lvl (R.1 0) s (R.1 0 (2 + 24 * s + 3)) < lv from y)]
      refine rf_G.step (pc' := 36) (st' := [_]) rfl rfl ?_
      exact rf_G.ret H rfl rfl
    · rw [if_neg (show ¬ rf_lvl (R.1 0) s (R.1 0 (2 + 24 * s + 3)) < lv from y)]
      refine rf_G.step (pc' := 26) (st' := [_]) rfl rfl ?_
      refine rf_G.step (pc' := 27) (st' := [_, _]) rfl rfl ?_
      refine rf_G.step (pc' := 28) (st' := [_, _, _]) rfl rfl ?_
      refine rf_G.v2I H rfl (by decide) rfl ⟨Nat.le_of_ble_eq_true rfl, rfl⟩ (Nat.le_of_ble_eq_true rfl) (rc_of r R s 5 hs (by decide)) (fun h H => ?_)
      refine rf_G.step (pc' := 32) (st' := [_]) rfl rfl ?_
      refine rf_G.step (pc' := 36) (st' := [_]) rfl rfl ?_
      exact rf_G.ret H rfl rfl
/-- what lies above a level, of a work's streams of one side -/
def rf_ln (N : Nat → Int32) (w b lv : Int32) : Nat → Int64
  | 0 => 0
  | s + 1 => if rf_isb N s w = true ∧ (if N (2 + 24 * s + 1) = 1 then (1 : Int32) else 0) = b then rf_ln N w b lv s + rf_ab N s lv else rf_ln N w b lv s
theorem rc_line_no (r : Nat) (R : rf_R) (w b lv : Int32) (hw : ¬ (0 ≤ w.toInt ∧ w.toInt ≤ 3)) : rf_C 175 r [.ref r, .int w, .int b, .int lv] R (some (.long (-1))) R := by
  intro h H
  show rf_G r 175 0 [.ref r, .int w, .int b, .int lv, .retAddr 0, .retAddr 0, .retAddr 0] [] h _ _
  refine rf_G.step (pc' := 1) (st' := [_]) rfl rfl ?_
  refine rf_G.s1 rfl (by decide) rfl (Nat.le_of_ble_eq_true rfl) (Nat.le_of_ble_eq_true rfl) (rc_isWork w) ?_
  refine rf_G.brn rfl (fun z => absurd ((rf_o_0 _).mpr hw) z) (fun _ => ?_)
  refine rf_G.step (pc' := 10) (st' := [_]) rfl rfl ?_
  exact rf_G.ret H rfl rfl
theorem rc_line (r : Nat) {R : rf_R} {M E : Nat} (P : rf_Pre R M E) (w b lv : Int32) (hw : 0 ≤ w.toInt ∧ w.toInt ≤ 3) : rf_C 175 r [.ref r, .int w, .int b, .int lv] R (some (.long (rf_ln (R.1 0) w b lv M))) R := by
  have hM := P.hM
  have loop : ∀ (d s : Nat), s + d = M → ∀ h, rf_At r R h → rf_G r 175 17 [.ref r, .int w, .int b, .int lv, .long (rf_ln (R.1 0) w b lv s), .retAddr 0, .int (nI s)] [] h (some (.long (rf_ln (R.1 0) w b lv M))) R := by
    intro d
    induction d with
    | zero =>
      intro s hs h H
      obtain rfl : s = M := by omega
      refine rf_G.step (pc' := 19) (st' := [_]) rfl rfl ?_
      refine rf_G.step (pc' := 20) (st' := [_, _]) rfl rfl ?_
      refine rf_G.get H rfl rfl ?_
      refine rf_G.step (pc' := 24) (st' := [_, _, _]) rfl rfl ?_
      refine rf_G.iald H 0 1 822 (by decide) rfl (rf_ix (n := 0) (by decide) (by decide)) ?_
      rw [show R.1 0 (Int32.toNatClampNeg 0) = nI s from P.eM]
      refine rf_G.bc rfl (jx_br_ge _ _) (fun _ => ?_) (fun z => absurd (Int32.le_refl _) z)
      refine rf_G.step (pc' := 78) (st' := [_]) rfl rfl ?_
      exact rf_G.ret H rfl rfl
    | succ d ih =>
      intro s hs h H
      have hs2 : s < 12 := by omega
      have nx := ih (s + 1) (by omega)
      have eq : rf_ln (R.1 0) w b lv (s + 1) = if rf_isb (R.1 0) s w = true ∧ (if R.1 0 (2 + 24 * s + 1) = 1 then (1 : Int32) else 0) = b then rf_ln (R.1 0) w b lv s + rf_ab (R.1 0) s lv else rf_ln (R.1 0) w b lv s := rfl
      rw [eq, ← nI_1] at nx
      have ca := rc_above r R s hs2 (P.ok s (by omega)).1 (P.ok s (by omega)).2 lv
      refine rf_G.step (pc' := 19) (st' := [_]) rfl rfl ?_
      refine rf_G.step (pc' := 20) (st' := [_, _]) rfl rfl ?_
      refine rf_G.get H rfl rfl ?_
      refine rf_G.step (pc' := 24) (st' := [_, _, _]) rfl rfl ?_
      refine rf_G.iald H 0 1 822 (by decide) rfl (rf_ix (n := 0) (by decide) (by decide)) ?_
      rw [show R.1 0 (Int32.toNatClampNeg 0) = nI M from P.eM]
      refine rf_G.bc rfl (jx_br_ge _ _) (fun z => absurd z (nI_ge (by omega) (by omega))) (fun _ => ?_)
      refine rf_G.step (pc' := 29) (st' := [_]) rfl rfl ?_
      refine rf_G.step (pc' := 31) (st' := [_, _]) rfl rfl ?_
      refine rf_G.step (pc' := 32) (st' := [_, _, _]) rfl rfl ?_
      refine rf_G.v2I H rfl (by decide) rfl ⟨Nat.le_of_ble_eq_true rfl, rfl⟩ (Nat.le_of_ble_eq_true rfl) (rc_isOf r R s hs2 w) (fun h H => ?_)
      refine rf_G.br rfl (jx_br_eq _ _) (fun z => ?_) (fun z => ?_)
      · rw [if_neg (fun y => rf_isb_f ((rf_o_0 _).mp z) y.1)] at nx
        refine rf_G.step (pc' := 73) (ls' := [_, _, _, _, _, _, _]) (st' := []) rfl rfl ?_
        refine rf_G.step (pc' := 17) (st' := []) rfl rfl ?_
        exact nx h H
      · have z1 := rf_isb_t (Decidable.not_not.mp (fun y => z ((rf_o_0 _).mpr y)))
        have t55 : ∀ h, rf_At r R h → rf_G r 175 54 [.ref r, .int w, .int b, .int lv, .long (rf_ln (R.1 0) w b lv s), .retAddr 0, .int (nI s)] [.int (if R.1 0 (2 + 24 * s + 1) = 1 then (1 : Int32) else 0)] h (some (.long (rf_ln (R.1 0) w b lv M))) R := by
          intro h H
          refine rf_G.step (pc' := 55) (st' := [_, _]) rfl rfl ?_
          refine rf_G.bcn rfl (fun y => ?_) (fun y => ?_)
          · rw [if_neg (fun u => y u.2)] at nx
            refine rf_G.step (pc' := 73) (ls' := [_, _, _, _, _, _, _]) (st' := []) rfl rfl ?_
            refine rf_G.step (pc' := 17) (st' := []) rfl rfl ?_
            exact nx h H
          · rw [if_pos ⟨z1, y⟩] at nx
            refine rf_G.step (pc' := 60) (st' := [_]) rfl rfl ?_
            refine rf_G.step (pc' := 61) (st' := [_, _]) rfl rfl ?_
            refine rf_G.step (pc' := 63) (st' := [_, _, _]) rfl rfl ?_
            refine rf_G.step (pc' := 64) (st' := [_, _, _, _]) rfl rfl ?_
            refine rf_G.v2I H rfl (by decide) rfl ⟨Nat.le_of_ble_eq_true rfl, rfl⟩ (Nat.le_of_ble_eq_true rfl) (ca) (fun h H => ?_)
            refine rf_G.step (pc' := 68) (st' := [_]) rfl rfl ?_
            refine rf_G.step (pc' := 70) (ls' := [_, _, _, _, _, _, _]) (st' := []) rfl rfl ?_
            refine rf_G.step (pc' := 73) (ls' := [_, _, _, _, _, _, _]) (st' := []) rfl rfl ?_
            refine rf_G.step (pc' := 17) (st' := []) rfl rfl ?_
            exact nx h H
        refine rf_G.step (pc' := 39) (st' := [_]) rfl rfl ?_
        refine rf_G.step (pc' := 41) (st' := [_, _]) rfl rfl ?_
        refine rf_G.step (pc' := 42) (st' := [_, _, _]) rfl rfl ?_
        refine rf_G.v2I H rfl (by decide) rfl ⟨Nat.le_of_ble_eq_true rfl, rfl⟩ (Nat.le_of_ble_eq_true rfl) (rc_of r R s 1 hs2 (by decide)) (fun h H => ?_)
        refine rf_G.step (pc' := 46) (st' := [_, _]) rfl rfl ?_
        refine rf_G.bcn rfl (fun y => ?_) (fun y => ?_)
        · rw [if_neg y] at t55
          refine rf_G.step (pc' := 54) (st' := [_]) rfl rfl ?_
          exact t55 h H
        · rw [if_pos y] at t55
          refine rf_G.step (pc' := 50) (st' := [_]) rfl rfl ?_
          refine rf_G.step (pc' := 54) (st' := [_]) rfl rfl ?_
          exact t55 h H
  intro h H
  show rf_G r 175 0 [.ref r, .int w, .int b, .int lv, .retAddr 0, .retAddr 0, .retAddr 0] [] h _ _
  refine rf_G.step (pc' := 1) (st' := [_]) rfl rfl ?_
  refine rf_G.s1 rfl (by decide) rfl (Nat.le_of_ble_eq_true rfl) (Nat.le_of_ble_eq_true rfl) (rc_isWork w) ?_
  refine rf_G.brn rfl (fun _ => ?_) (fun z => absurd z (fun q => (rf_o_0 _).mp q hw))
  refine rf_G.step (pc' := 12) (st' := [_]) rfl rfl ?_
  refine rf_G.step (pc' := 14) (ls' := [_, _, _, _, _, _, _]) (st' := []) rfl rfl ?_
  refine rf_G.step (pc' := 15) (st' := [_]) rfl rfl ?_
  refine rf_G.step (pc' := 17) (ls' := [_, _, _, _, _, _, _]) (st' := []) rfl rfl ?_
  exact loop M 0 (by omega) h H
def rf_fb (N : Nat → Int32) : Nat → Int32
  | 0 => 0
  | k + 1 => rf_fb N k + N (678 + k)
def rf_cnt (R : rf_R) (w : Int32) : Int32 := if w = 0 then R.1 0 0 else if w = 1 then R.1 0 1 else if w = 2 then R.2.2.1 3 else if w = 3 then R.2.2.1 4 else if w = 4 then rf_fb (R.1 0) 144 else if 5 ≤ w.toInt ∧ w.toInt ≤ 8 then R.1 0 (434 + 61 * (w - 5).toNatClampNeg) else -1
theorem rc_count (r : Nat) (R : rf_R) (w : Int32) : rf_C 204 r [.ref r, .int w] R (some (.int (rf_cnt R w))) R := by
  have loop : ∀ (d k : Nat), k + d = 144 → ∀ h, rf_At r R h → rf_G r 204 64 [.ref r, .int w, .int (rf_fb (R.1 0) k), .int (nI k)] [] h (some (.int (rf_fb (R.1 0) 144))) R := by
    intro d
    induction d with
    | zero =>
      intro k hk h H
      obtain rfl : k = 144 := by omega
      refine rf_G.step (pc' := 65) (st' := [_]) rfl rfl ?_
      refine rf_G.step (pc' := 68) (st' := [_, _]) rfl rfl ?_
      refine rf_G.bc rfl (jx_br_ge _ _) (fun _ => ?_) (fun z => absurd (Int32.le_refl _) z)
      refine rf_G.step (pc' := 91) (st' := [_]) rfl rfl ?_
      exact rf_G.ret H rfl rfl
    | succ d ih =>
      intro k hk h H
      refine rf_G.step (pc' := 65) (st' := [_]) rfl rfl ?_
      refine rf_G.step (pc' := 68) (st' := [_, _]) rfl rfl ?_
      rw [rf_lit 144]
      refine rf_G.bc rfl (jx_br_ge _ _) (fun z => absurd z (nI_ge (by omega) (by omega))) (fun _ => ?_)
      refine rf_G.step (pc' := 72) (st' := [_]) rfl rfl ?_
      refine rf_G.step (pc' := 73) (st' := [_, _]) rfl rfl ?_
      refine rf_G.get H rfl rfl ?_
      refine rf_G.step (pc' := 79) (st' := [_, _, _]) rfl rfl ?_
      refine rf_G.step (pc' := 80) (st' := [_, _, _, _]) rfl rfl ?_
      refine rf_G.step (pc' := 81) (st' := [_, _, _]) rfl rfl ?_
      rw [rf_lit 678, nI_add]
      refine rf_G.iald H 0 1 822 (by decide) rfl (rf_ix (by omega) (by decide)) ?_
      rw [nI_clamp (by omega)]
      refine rf_G.step (pc' := 83) (st' := [_]) rfl rfl ?_
      refine rf_G.step (pc' := 84) (ls' := [_, _, _, _]) (st' := []) rfl rfl ?_
      refine rf_G.step (pc' := 87) (ls' := [_, _, _, _]) (st' := []) rfl rfl ?_
      refine rf_G.step (pc' := 64) (st' := []) rfl rfl ?_
      rw [nI_1]
      exact ih (k + 1) (by omega) h H
  intro h H
  show rf_G r 204 0 [.ref r, .int w, .retAddr 0, .retAddr 0] [] h _ _
  refine rf_G.step (pc' := 1) (st' := [_]) rfl rfl ?_
  by_cases hw : 0 ≤ w.toInt ∧ w.toInt ≤ 4
  · obtain ⟨j, hj, rfl⟩ := rf_nI (n := 4) hw (by decide)
    match j, hj with
    | 0, _ =>
      refine rf_G.swI (tgt := 36) (o := 35) rfl (by decide) (by decide) (by decide) ?_
      refine rf_G.step (pc' := 37) (st' := [_]) rfl rfl ?_
      refine rf_G.get H rfl rfl ?_
      refine rf_G.step (pc' := 41) (st' := [_, _]) rfl rfl ?_
      refine rf_G.iald H 0 1 822 (by decide) rfl (rf_ix (n := 0) (by decide) (by decide)) ?_
      exact rf_G.ret H rfl rfl
    | 1, _ =>
      refine rf_G.swI (tgt := 43) (o := 42) rfl (by decide) (by decide) (by decide) ?_
      refine rf_G.step (pc' := 44) (st' := [_]) rfl rfl ?_
      refine rf_G.get H rfl rfl ?_
      refine rf_G.step (pc' := 48) (st' := [_, _]) rfl rfl ?_
      refine rf_G.iald H 0 1 822 (by decide) rfl (rf_ix (n := 1) (by decide) (by decide)) ?_
      exact rf_G.ret H rfl rfl
    | 2, _ =>
      refine rf_G.swI (tgt := 50) (o := 49) rfl (by decide) (by decide) (by decide) ?_
      refine rf_G.step (pc' := 51) (st' := [_]) rfl rfl ?_
      refine rf_G.get H rfl rfl ?_
      exact rf_G.ret H rfl rfl
    | 3, _ =>
      refine rf_G.swI (tgt := 55) (o := 54) rfl (by decide) (by decide) (by decide) ?_
      refine rf_G.step (pc' := 56) (st' := [_]) rfl rfl ?_
      refine rf_G.get H rfl rfl ?_
      exact rf_G.ret H rfl rfl
    | 4, _ =>
      refine rf_G.swI (tgt := 60) (o := 59) rfl (by decide) (by decide) (by decide) ?_
      refine rf_G.step (pc' := 61) (st' := [_]) rfl rfl ?_
      refine rf_G.step (pc' := 62) (ls' := [_, _, _, _]) (st' := []) rfl rfl ?_
      refine rf_G.step (pc' := 63) (st' := [_]) rfl rfl ?_
      refine rf_G.step (pc' := 64) (ls' := [_, _, _, _]) (st' := []) rfl rfl ?_
      exact loop 144 0 (by omega) h H
  · refine rf_G.swO (tgt := 92) rfl hw (by decide) ?_
    unfold rf_cnt
    rw [if_neg (fun q => hw (by rw [q]; decide)), if_neg (fun q => hw (by rw [q]; decide)), if_neg (fun q => hw (by rw [q]; decide)), if_neg (fun q => hw (by rw [q]; decide)), if_neg (fun q => hw (by rw [q]; decide))]
    refine rf_G.step (pc' := 93) (st' := [_]) rfl rfl ?_
    refine rf_G.step (pc' := 94) (st' := [_]) rfl rfl ?_
    refine rf_G.step (pc' := 97) (st' := [_, _]) rfl rfl ?_
    refine rf_G.step (pc' := 100) (st' := [_, _, _]) rfl rfl ?_
    refine rf_G.s3 rfl (by decide) rfl (Nat.le_of_ble_eq_true rfl) (Nat.le_of_ble_eq_true rfl) (fun h => rc_inI _ _ _ h) ?_
    rw [rf_w]
    refine rf_G.br rfl (jx_br_eq _ _) (fun z => ?_) (fun z => ?_)
    · rw [if_neg (show ¬ (5 ≤ w.toInt ∧ w.toInt ≤ 8) from (rf_o_0 _).mp z)]
      refine rf_G.step (pc' := 117) (st' := [_]) rfl rfl ?_
      exact rf_G.ret H rfl rfl
    · have z1 : 5 ≤ w.toInt ∧ w.toInt ≤ 8 := Decidable.not_not.mp (fun y => z ((rf_o_0 _).mpr y))
      rw [if_pos z1]
      obtain ⟨j, hj, rfl⟩ := rf_nI (x := w) (n := 8) ⟨by omega, z1.2⟩ (by decide)
      have h5 : 5 ≤ j := by
        have := z1.1
        rw [nI_toInt (by omega)] at this
        omega
      obtain ⟨i, rfl⟩ : ∃ i, j = i + 5 := ⟨j - 5, by omega⟩
      have e : nI (i + 5) - 5 = nI i := by
        rw [← nI_add]
        exact Int32.add_sub_cancel _ _
      rw [e, nI_clamp (by omega)]
      refine rf_G.step (pc' := 107) (st' := [_]) rfl rfl ?_
      refine rf_G.step (pc' := 108) (st' := [_, _]) rfl rfl ?_
      refine rf_G.step (pc' := 109) (st' := [_, _, _]) rfl rfl ?_
      refine rf_G.step (pc' := 110) (st' := [_, _]) rfl rfl ?_
      rw [e]
      refine rf_G.v1I H rfl (by decide) rfl ⟨Nat.le_of_ble_eq_true rfl, rfl⟩ (Nat.le_of_ble_eq_true rfl) (rc_meetings r R i (by omega)) (fun h H => ?_)
      refine rf_G.step (pc' := 117) (st' := [_]) rfl rfl ?_
      exact rf_G.ret H rfl rfl
/-- all that counts of the reference stays; scratch rows may change -/
def rf_J (R R2 : rf_R) : Prop := R2.1 0 = R.1 0 ∧ R2.1 1 = R.1 1 ∧ (∀ k, (k ≤ 6 ∨ k = 24 ∨ k = 39) → R2.2.2.1 k = R.2.2.1 k) ∧ (∀ k, 19 ≤ k → R2.2.2.2 k = R.2.2.2 k) ∧ R2.1 28 0 = R.1 28 0
theorem rf_J.rf {R : rf_R} : rf_J R R := ⟨rfl, rfl, fun _ _ => rfl, fun _ _ => rfl, rfl⟩
theorem rf_J.tr {R R2 R3 : rf_R} (a : rf_J R R2) (b : rf_J R2 R3) : rf_J R R3 := ⟨b.1.trans a.1, b.2.1.trans a.2.1, fun k h => (b.2.2.1 k h).trans (a.2.2.1 k h), fun k h => (b.2.2.2.1 k h).trans (a.2.2.2.1 k h), b.2.2.2.2.trans a.2.2.2.2⟩
theorem rf_J.pre {R R2 : rf_R} {M E : Nat} (j : rf_J R R2) (P : rf_Pre R M E) : rf_Pre R2 M E := ⟨P.hM, P.hE, by rw [j.1]; exact P.eM, by rw [j.2.2.1 6 (by decide)]; exact P.eE, by rw [j.1]; exact P.ok⟩
theorem rf_hR_J {R : rf_R} {M E : Nat} (P : rf_Pre R M E) (w : Int32) : rf_J R (rf_hR R w M E) := by
  have k := rf_hR_kp P w
  exact ⟨k.1 0 (by decide), k.1 1 (by decide), fun j hj => k.2.2.2.2.2.2.1 j (by omega), fun j _ => by rw [k.2.2.2.2.2.2.2], by rw [k.1 28 (by decide)]⟩
theorem rf_las_J {R : rf_R} {M E : Nat} (P : rf_Pre R M E) (w : Int32) : rf_J R (rf_las R w M E).1 := by
  have k := (rf_las_ok P w).1
  exact ⟨k.1 0 (by decide), k.1 1 (by decide), fun j hj => k.2.2.1 j (by omega), fun j _ => by rw [k.2.2.2], by rw [k.1 28 (by decide)]⟩
theorem hp_congr {N X X2 : Nat → Int32} {Y Y2 : Nat → Int64} {w : Int32} {M E : Nat} (hx : ∀ k, k < E → X k = X2 k) (hy : ∀ k, k < E → Y k = Y2 k) : lv_L N X w M E = lv_L N X2 w M E ∧ hp_b N X Y w M E = hp_b N X2 Y2 w M E := by
  have e1 : lv_L N X w M E = lv_L N X2 w M E := by
    unfold lv_L
    rw [List.map_congr_left (fun j hj => hx j (by have := (List.mem_range'_1.mp hj).2; omega))]
  refine ⟨e1, ?_⟩
  unfold hp_b
  rw [e1]
  funext k
  unfold hp_st
  have : ∀ (a : Int32) (n : Int64) (e : Nat), e ≤ E → rf_se X Y a n e = rf_se X2 Y2 a n e := by
    intro a n e
    induction e with
    | zero => intro _; rfl
    | succ e ih =>
      intro he
      unfold rf_se
      rw [ih (by omega), hx e (by omega), hy e (by omega)]
  exact this _ _ E (Nat.le_refl E)
theorem hp_v_congr {N X X2 : Nat → Int32} {Y Y2 : Nat → Int64} {w : Int32} {M E : Nat} (hx : ∀ k, k < E → X k = X2 k) (hy : ∀ k, k < E → Y k = Y2 k) : hp_v N X Y w M E = hp_v N X2 Y2 w M E := by
  obtain ⟨h1, h2⟩ := hp_congr (N := N) (w := w) (M := M) hx hy
  unfold hp_v hp_n hp_a
  rw [h2, h1]
/-- the least heat with one or two still ones more -/
def rf_lw (N : Nat → Int32) (w : Int32) (M : Nat) (l0 : Int32) (h0 : Int64) (l1 : Int32) (h1 : Int64) : Int64 := hp_v N (fun k => if k = 0 then l0 else l1) (fun k => if k = 0 then h0 else h1) w M (if h1 = 0 then 1 else 2)
def rf_wR (R : rf_R) (E : Nat) (l0 : Int32) (h0 : Int64) (l1 : Int32) (h1 : Int64) : rf_R := rf_sB (rf_sA (rf_sB (rf_sA (rf_sI R 6 (nI E)) 7 (upd (R.1 7) 0 l0)) 8 (vp_updL (R.2.1 8) 0 h0)) 7 (upd (upd (R.1 7) 0 l0) 1 l1)) 8 (vp_updL (vp_updL (R.2.1 8) 0 h0) 1 h1)
theorem rc_leastWith (r : Nat) {R : rf_R} {M : Nat} (P : rf_Pre R M 0) (w l0 : Int32) (h0 : Int64) (l1 : Int32) (h1 : Int64) : ∃ R2, rf_C 189 r [.ref r, .int w, .int l0, .long h0, .int l1, .long h1] R (some (.long (rf_lw (R.1 0) w M l0 h0 l1 h1))) R2 ∧ rf_J R R2 := by
  have key : ∀ E, E = (if h1 = 0 then 1 else 2) → ∀ R1, R1 = rf_wR R E l0 h0 l1 h1 → rf_Pre R1 M E ∧ rf_hv R1 w M E = rf_lw (R.1 0) w M l0 h0 l1 h1 ∧ rf_J R (rf_sI (rf_hR R1 w M E) 6 0) := by
    intro E hE R1 e1
    have hE2 : E ≤ 2 := by rw [hE]; split <;> omega
    have P1 : rf_Pre R1 M E := by
      subst e1
      exact ⟨P.hM, hE2, P.eM, rfl, P.ok⟩
    refine ⟨P1, ?_, ?_⟩
    · rw [(hp_heat P1 w).2.1]
      unfold rf_lw
      rw [← hE]
      have en : R1.1 0 = R.1 0 := by subst e1; rfl
      rw [en]
      refine hp_v_congr (fun k hk => ?_) (fun k hk => ?_)
      · subst e1
        show upd (upd (R.1 7) 0 l0) 1 l1 k = _
        unfold upd
        by_cases h : k = 0
        · subst h; rfl
        · rw [if_pos (by omega), if_neg h]
      · subst e1
        show vp_updL (vp_updL (R.2.1 8) 0 h0) 1 h1 k = _
        unfold vp_updL
        by_cases h : k = 0
        · subst h; rfl
        · rw [if_pos (by omega), if_neg h]
    · have j1 := rf_hR_J P1 w
      have eE := P.eE
      subst e1
      refine ⟨j1.1, j1.2.1, fun k hk => ?_, fun k hk => j1.2.2.2.1 k hk, j1.2.2.2.2⟩
      by_cases h6 : k = 6
      · subst h6
        exact eE.symm
      · show (if k = 6 then (0 : Int32) else _) = _
        rw [if_neg h6]
        refine (j1.2.2.1 k hk).trans ?_
        show (if k = 6 then (nI E) else _) = _
        rw [if_neg h6]
  obtain ⟨P1, e1, j1⟩ := key _ rfl _ rfl
  refine ⟨_, ?_, j1⟩
  rw [← e1]
  intro h H
  show rf_G r 189 0 [.ref r, .int w, .int l0, .long h0, .retAddr 0, .int l1, .long h1, .retAddr 0, .retAddr 0, .retAddr 0] [] h _ _
  have t13 : ∀ h, rf_At r R h → rf_G r 189 13 [.ref r, .int w, .int l0, .long h0, .retAddr 0, .int l1, .long h1, .retAddr 0, .retAddr 0, .retAddr 0] [.int (nI (if h1 = 0 then 1 else 2)), .ref r] h (some (.long (rf_hv (rf_wR R (if h1 = 0 then 1 else 2) l0 h0 l1 h1) w M (if h1 = 0 then 1 else 2)))) (rf_sI (rf_hR (rf_wR R (if h1 = 0 then 1 else 2) l0 h0 l1 h1) w M (if h1 = 0 then 1 else 2)) 6 0) := by
    intro h H
    refine rf_G.putI H rfl rfl (by decide) rfl (fun h H => ?_)
    refine rf_G.step (pc' := 17) (st' := [_]) rfl rfl ?_
    refine rf_G.get H rfl rfl ?_
    refine rf_G.step (pc' := 21) (st' := [_, _]) rfl rfl ?_
    refine rf_G.step (pc' := 22) (st' := [_, _, _]) rfl rfl ?_
    refine rf_G.iast H 7 4 2 (by decide) rfl (rf_ix (n := 0) (by decide) (by decide)) (fun h H => ?_)
    refine rf_G.step (pc' := 24) (st' := [_]) rfl rfl ?_
    refine rf_G.get H rfl rfl ?_
    refine rf_G.step (pc' := 28) (st' := [_, _]) rfl rfl ?_
    refine rf_G.step (pc' := 29) (st' := [_, _, _]) rfl rfl ?_
    refine rf_G.last H 8 5 2 (by decide) rfl (rf_ix (n := 0) (by decide) (by decide)) (fun h H => ?_)
    refine rf_G.step (pc' := 31) (st' := [_]) rfl rfl ?_
    refine rf_G.get H rfl rfl ?_
    refine rf_G.step (pc' := 35) (st' := [_, _]) rfl rfl ?_
    refine rf_G.step (pc' := 37) (st' := [_, _, _]) rfl rfl ?_
    refine rf_G.iast H 7 4 2 (by decide) rfl (rf_ix (n := 1) (by decide) (by decide)) (fun h H => ?_)
    refine rf_G.step (pc' := 39) (st' := [_]) rfl rfl ?_
    refine rf_G.get H rfl rfl ?_
    refine rf_G.step (pc' := 43) (st' := [_, _]) rfl rfl ?_
    refine rf_G.step (pc' := 45) (st' := [_, _, _]) rfl rfl ?_
    refine rf_G.last H 8 5 2 (by decide) rfl (rf_ix (n := 1) (by decide) (by decide)) (fun h H => ?_)
    refine rf_G.step (pc' := 47) (st' := [_]) rfl rfl ?_
    refine rf_G.step (pc' := 48) (st' := [_, _]) rfl rfl ?_
    refine rf_G.v1I H rfl (by decide) rfl ⟨Nat.le_of_ble_eq_true rfl, rfl⟩ (Nat.le_of_ble_eq_true rfl) (rc_leastHeat r P1 w) (fun h H => ?_)
    refine rf_G.step (pc' := 53) (ls' := [_, _, _, _, _, _, _, _, _, _]) (st' := []) rfl rfl ?_
    refine rf_G.step (pc' := 54) (st' := [_]) rfl rfl ?_
    refine rf_G.step (pc' := 55) (st' := [_, _]) rfl rfl ?_
    refine rf_G.putI H rfl rfl (by decide) rfl (fun h H => ?_)
    refine rf_G.step (pc' := 60) (st' := [_]) rfl rfl ?_
    exact rf_G.ret H rfl rfl
  refine rf_G.step (pc' := 1) (st' := [_]) rfl rfl ?_
  refine rf_G.step (pc' := 3) (st' := [_, _]) rfl rfl ?_
  refine rf_G.step (pc' := 4) (st' := [_, _, _]) rfl rfl ?_
  refine rf_G.step (pc' := 5) (st' := [_, _]) rfl rfl ?_
  refine rf_G.brn rfl (fun z => ?_) (fun z => ?_)
  · have z1 : ¬ h1 = 0 := fun q => z ((lg_cmp_eq0 _ _).mpr q)
    simp only [if_neg z1] at t13 ⊢
    refine rf_G.step (pc' := 13) (st' := [_, _]) rfl rfl ?_
    exact t13 h H
  · have z1 : h1 = 0 := (lg_cmp_eq0 _ _).mp z
    simp only [if_pos z1] at t13 ⊢
    refine rf_G.step (pc' := 9) (st' := [_, _]) rfl rfl ?_
    refine rf_G.step (pc' := 13) (st' := [_, _]) rfl rfl ?_
    exact t13 h H
