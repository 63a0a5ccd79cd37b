/-! acts of the reference: the streams -/
theorem rf_up_ne {f : Nat → Int32} {i j : Nat} {x : Int32} (h : j ≠ i) : upd f i x j = f j := if_neg h
theorem rf_up_eq {f : Nat → Int32} {i : Nat} {x : Int32} : upd f i x i = x := if_pos rfl
theorem rf_put_lo {f g : Nat → Int32} {a n j : Nat} (h : j < a) : rf_put f g a n j = f j := if_neg (by omega)
theorem rc_isStream (r : Nat) (R : rf_R) (M : Nat) (hM : M ≤ 12) (eM : R.1 0 0 = nI M) (k : Int32) : rf_C 152 r [.ref r, .int k] R (some (.int (rf_o (0 ≤ k.toInt ∧ k.toInt < M)))) R := by
  intro h H
  show rf_G r 152 0 [.ref r, .int k] [] h _ R
  refine rf_G.step (pc' := 1) (st' := [_]) rfl rfl ?_
  refine rf_G.step (pc' := 2) (st' := [_]) rfl rfl ?_
  refine rf_G.step (pc' := 3) (st' := [_, _]) rfl rfl ?_
  refine rf_G.step (pc' := 4) (st' := [_, _, _]) rfl rfl ?_
  refine rf_G.get H rfl rfl ?_
  refine rf_G.step (pc' := 8) (st' := [_, _, _, _]) rfl rfl ?_
  refine rf_G.iald H 0 1 822 (by decide) rfl (rf_ix (n := 0) (by decide) (by decide)) ?_
  rw [show R.1 0 (Int32.toNatClampNeg 0) = nI M from eM]
  refine rf_G.step (pc' := 10) (st' := [_, _, _, _]) rfl rfl ?_
  refine rf_G.step (pc' := 11) (st' := [_, _, _]) rfl rfl ?_
  refine rf_G.step (pc' := 12) (st' := [_, _, _]) rfl rfl ?_
  refine rf_G.s3 rfl (by decide) rfl (Nat.le_of_ble_eq_true rfl) (Nat.le_of_ble_eq_true rfl) (fun h => rc_inI _ _ _ h) ?_
  have e1 : (nI M - 1).toInt = (M : Int) - 1 := by
    have := pk_sub_toInt (a := M) (b := 1) (by omega) (by decide)
    show (nI M - nI 1).toInt = _
    rw [this]
    rfl
  rw [rf_w, rf_w, e1]
  have e2 : rf_o ((0 : Int64).toInt ≤ k.toInt ∧ k.toInt ≤ (M : Int) - 1) = rf_o (0 ≤ k.toInt ∧ k.toInt < M) := by
    unfold rf_o
    congr 1
    apply propext
    show (0 : Int) ≤ k.toInt ∧ k.toInt ≤ (M : Int) - 1 ↔ _
    omega
  rw [show rf_o ((0 : Int64).toInt ≤ k.toInt ∧ k.toInt ≤ (M : Int) - 1) = rf_o (0 ≤ k.toInt ∧ k.toInt < M) from e2]
  exact rf_retB H rfl
def rf_bg (N : Nat → Int32) (M : Nat) (kind hot work from_ : Int32) : Nat → Int32 := upd (upd (upd (upd (rf_put N (fun _ => 0) (2 + 24 * M) 24) (2 + 24 * M) kind) (2 + 24 * M + 1) (rf_o (¬ hot = 0))) (2 + 24 * M + 2) work) (2 + 24 * M + 3) from_
theorem rf_bg_0 (N : Nat → Int32) (M : Nat) (kind hot work from_ : Int32) : rf_bg N M kind hot work from_ 0 = N 0 := by
  unfold rf_bg
  rw [rf_up_ne (by omega), rf_up_ne (by omega), rf_up_ne (by omega), rf_up_ne (by omega), rf_put_lo (by omega)]
theorem rc_begins (r : Nat) (R : rf_R) (M : Nat) (hM : M < 12) (eM : R.1 0 0 = nI M) (kind hot work from_ : Int32) : rf_C 145 r [.ref r, .int kind, .int hot, .int work, .int from_] R (some (.int (nI (2 + 24 * M)))) (rf_sA R 0 (rf_bg (R.1 0) M kind hot work from_)) := by
  have tail : ∀ h, rf_At r (rf_sA R 0 (upd (upd (rf_put (R.1 0) (fun _ => 0) (2 + 24 * M) 24) (2 + 24 * M) kind) (2 + 24 * M + 1) (rf_o (¬ hot = 0)))) h → rf_G r 145 66 [.ref r, .int kind, .int hot, .int work, .int from_, .int (nI (2 + 24 * M)), .int (nI 24)] [] h (some (.int (nI (2 + 24 * M)))) (rf_sA R 0 (rf_bg (R.1 0) M kind hot work from_)) := by
    intro h H
    refine rf_G.step (pc' := 67) (st' := [_]) rfl rfl ?_
    refine rf_G.get H rfl rfl ?_
    refine rf_G.step (pc' := 72) (st' := [_, _]) rfl rfl ?_
    refine rf_G.step (pc' := 73) (st' := [_, _, _]) rfl rfl ?_
    refine rf_G.step (pc' := 74) (st' := [_, _]) rfl rfl ?_
    rw [show nI (2 + 24 * M) + 2 = nI (2 + 24 * M + 2) by rw [rf_lit 2, nI_add]]
    refine rf_G.step (pc' := 75) (st' := [_, _, _]) rfl rfl ?_
    refine rf_G.iast H 0 1 822 (by decide) rfl (rf_ix (by omega) (by decide)) (fun h H => ?_)
    rw [nI_clamp (by omega), rf_sA_sA, rf_sA_at] at H
    refine rf_G.step (pc' := 77) (st' := [_]) rfl rfl ?_
    refine rf_G.get H rfl rfl ?_
    refine rf_G.step (pc' := 82) (st' := [_, _]) rfl rfl ?_
    refine rf_G.step (pc' := 83) (st' := [_, _, _]) rfl rfl ?_
    refine rf_G.step (pc' := 84) (st' := [_, _]) rfl rfl ?_
    rw [show nI (2 + 24 * M) + 3 = nI (2 + 24 * M + 3) by rw [rf_lit 3, nI_add]]
    refine rf_G.step (pc' := 86) (st' := [_, _, _]) rfl rfl ?_
    refine rf_G.iast H 0 1 822 (by decide) rfl (rf_ix (by omega) (by decide)) (fun h H => ?_)
    rw [nI_clamp (by omega), rf_sA_sA, rf_sA_at] at H
    refine rf_G.step (pc' := 89) (st' := [_]) rfl rfl ?_
    exact rf_G.ret H rfl rfl
  have loop : ∀ (d i : Nat), i + d = 24 → ∀ h, rf_At r (rf_sA R 0 (rf_put (R.1 0) (fun _ => 0) (2 + 24 * M) i)) h → rf_G r 145 16 [.ref r, .int kind, .int hot, .int work, .int from_, .int (nI (2 + 24 * M)), .int (nI i)] [] h (some (.int (nI (2 + 24 * M)))) (rf_sA R 0 (rf_bg (R.1 0) M kind hot work from_)) := by
    intro d
    induction d with
    | zero =>
      intro i hi h H
      obtain rfl : i = 24 := by omega
      refine rf_G.step (pc' := 18) (st' := [_]) rfl rfl ?_
      refine rf_G.step (pc' := 20) (st' := [_, _]) rfl rfl ?_
      refine rf_G.bc rfl (jx_br_ge _ _) (fun _ => ?_) (fun q => absurd (Int32.le_refl _) q)
      refine rf_G.step (pc' := 41) (st' := [_]) rfl rfl ?_
      refine rf_G.get H rfl rfl ?_
      refine rf_G.step (pc' := 46) (st' := [_, _]) rfl rfl ?_
      refine rf_G.step (pc' := 47) (st' := [_, _, _]) rfl rfl ?_
      refine rf_G.iast H 0 1 822 (by decide) rfl (rf_ix (by omega) (by decide)) (fun h H => ?_)
      rw [nI_clamp (by omega), rf_sA_sA, rf_sA_at] at H
      refine rf_G.step (pc' := 49) (st' := [_]) rfl rfl ?_
      refine rf_G.get H rfl rfl ?_
      refine rf_G.step (pc' := 54) (st' := [_, _]) rfl rfl ?_
      refine rf_G.step (pc' := 55) (st' := [_, _, _]) rfl rfl ?_
      refine rf_G.step (pc' := 56) (st' := [_, _]) rfl rfl ?_
      rw [show nI (2 + 24 * M) + 1 = nI (2 + 24 * M + 1) by rw [nI_1]]
      refine rf_G.step (pc' := 57) (st' := [_, _, _]) rfl rfl ?_
      refine rf_G.br rfl (jx_br_eq _ _) (fun q => ?_) (fun q => ?_)
      · refine rf_G.step (pc' := 65) (st' := [_, _, _]) rfl rfl ?_
        refine rf_G.iast H 0 1 822 (by decide) rfl (rf_ix (by omega) (by decide)) (fun h H => ?_)
        rw [nI_clamp (by omega), rf_sA_sA, rf_sA_at] at H
        exact tail h (by rw [rf_of (fun z => z q)]; exact H)
      · refine rf_G.step (pc' := 61) (st' := [_, _, _]) rfl rfl ?_
        refine rf_G.step (pc' := 65) (st' := [_, _, _]) rfl rfl ?_
        refine rf_G.iast H 0 1 822 (by decide) rfl (rf_ix (by omega) (by decide)) (fun h H => ?_)
        rw [nI_clamp (by omega), rf_sA_sA, rf_sA_at] at H
        exact tail h (by rw [rf_ot q]; exact H)
    | succ d ih =>
      intro i hi h H
      refine rf_G.step (pc' := 18) (st' := [_]) rfl rfl ?_
      refine rf_G.step (pc' := 20) (st' := [_, _]) rfl rfl ?_
      refine rf_G.bc rfl (jx_br_ge _ _) (fun q => absurd q (by rw [rf_lit 24]; exact nI_ge (by omega) (by decide))) (fun _ => ?_)
      refine rf_G.step (pc' := 24) (st' := [_]) rfl rfl ?_
      refine rf_G.get H rfl rfl ?_
      refine rf_G.step (pc' := 29) (st' := [_, _]) rfl rfl ?_
      refine rf_G.step (pc' := 31) (st' := [_, _, _]) rfl rfl ?_
      refine rf_G.step (pc' := 32) (st' := [_, _]) rfl rfl ?_
      rw [nI_add]
      refine rf_G.step (pc' := 33) (st' := [_, _, _]) rfl rfl ?_
      refine rf_G.iast H 0 1 822 (by decide) rfl (rf_ix (by omega) (by decide)) (fun h H => ?_)
      rw [nI_clamp (by omega), rf_sA_sA, rf_sA_at, rf_put_s _ (fun _ => 0)] at H
      refine rf_G.step (pc' := 37) (ls' := [_, _, _, _, _, _, _]) (st' := []) rfl rfl ?_
      refine rf_G.step (pc' := 16) (st' := []) rfl rfl ?_
      show rf_G r 145 16 [.ref r, .int kind, .int hot, .int work, .int from_, .int (nI (2 + 24 * M)), .int (nI i + 1)] [] h _ _
      rw [nI_1]
      exact ih (i + 1) (by omega) h H
  intro h H
  show rf_G r 145 0 [.ref r, .int kind, .int hot, .int work, .int from_, .retAddr 0, .retAddr 0] [] h _ _
  refine rf_G.step (pc' := 1) (st' := [_]) rfl rfl ?_
  refine rf_G.step (pc' := 3) (st' := [_, _]) rfl rfl ?_
  refine rf_G.step (pc' := 4) (st' := [_, _, _]) rfl rfl ?_
  refine rf_G.get H rfl rfl ?_
  refine rf_G.step (pc' := 8) (st' := [_, _, _, _]) rfl rfl ?_
  refine rf_G.iald H 0 1 822 (by decide) rfl (rf_ix (n := 0) (by decide) (by decide)) ?_
  rw [show R.1 0 (Int32.toNatClampNeg 0) = nI M from eM]
  refine rf_G.step (pc' := 10) (st' := [_, _]) rfl rfl ?_
  refine rf_G.step (pc' := 11) (st' := [_]) rfl rfl ?_
  rw [show (2 : Int32) + 24 * nI M = nI (2 + 24 * M) by rw [rf_lit 2, rf_lit 24, pk_mul, nI_add]]
  refine rf_G.step (pc' := 13) (ls' := [_, _, _, _, _, _, _]) (st' := []) rfl rfl ?_
  refine rf_G.step (pc' := 14) (st' := [_]) rfl rfl ?_
  refine rf_G.step (pc' := 16) (ls' := [_, _, _, _, _, _, _]) (st' := []) rfl rfl ?_
  exact loop 24 0 (by decide) h (by rw [rf_put_0, rf_sA_id]; exact H)
/-- the answers of still, by their order -/
theorem rc_still_1 (r : Nat) (R : rf_R) (w hot t q : Int32) (hw : ¬ (0 ≤ w.toInt ∧ w.toInt ≤ 2)) : rf_C 147 r [.ref r, .int w, .int hot, .int t, .int q] R (some (.int 1)) R := by
  intro h H
  show rf_G r 147 0 [.ref r, .int w, .int hot, .int t, .int q, .retAddr 0] [] h _ _
  refine rf_G.step (pc' := 1) (st' := [_]) rfl rfl ?_
  refine rf_G.step (pc' := 2) (st' := [_]) rfl rfl ?_
  refine rf_G.step (pc' := 3) (st' := [_, _]) rfl rfl ?_
  refine rf_G.step (pc' := 6) (st' := [_, _, _]) rfl rfl ?_
  refine rf_G.s3 rfl (by decide) rfl (Nat.le_of_ble_eq_true rfl) (Nat.le_of_ble_eq_true rfl) (fun h => rc_inI _ _ _ h) ?_
  rw [rf_w]
  refine rf_G.brn rfl (fun z => absurd ((rf_o_0 _).mpr hw) z) (fun _ => ?_)
  refine rf_G.step (pc' := 13) (st' := [_]) rfl rfl ?_
  exact rf_G.ret H rfl rfl
theorem rc_still_2 (r : Nat) (R : rf_R) (w hot t q : Int32) (hw : 0 ≤ w.toInt ∧ w.toInt ≤ 2) (eM : R.1 0 0 = nI 12) : rf_C 147 r [.ref r, .int w, .int hot, .int t, .int q] R (some (.int 2)) R := by
  intro h H
  show rf_G r 147 0 [.ref r, .int w, .int hot, .int t, .int q, .retAddr 0] [] h _ _
  refine rf_G.step (pc' := 1) (st' := [_]) rfl rfl ?_
  refine rf_G.step (pc' := 2) (st' := [_]) rfl rfl ?_
  refine rf_G.step (pc' := 3) (st' := [_, _]) rfl rfl ?_
  refine rf_G.step (pc' := 6) (st' := [_, _, _]) rfl rfl ?_
  refine rf_G.s3 rfl (by decide) rfl (Nat.le_of_ble_eq_true rfl) (Nat.le_of_ble_eq_true rfl) (fun h => rc_inI _ _ _ h) ?_
  rw [rf_w]
  refine rf_G.brn rfl (fun _ => ?_) (fun z => absurd hw ((rf_o_0 _).mp z))
  refine rf_G.step (pc' := 15) (st' := [_]) rfl rfl ?_
  refine rf_G.get H rfl rfl ?_
  refine rf_G.step (pc' := 19) (st' := [_, _]) rfl rfl ?_
  refine rf_G.iald H 0 1 822 (by decide) rfl (rf_ix (n := 0) (by decide) (by decide)) ?_
  refine rf_G.step (pc' := 22) (st' := [_, _]) rfl rfl ?_
  rw [show R.1 0 (Int32.toNatClampNeg 0) = nI 12 from eM]
  refine rf_G.bcn rfl (fun z => absurd rfl z) (fun _ => ?_)
  refine rf_G.step (pc' := 26) (st' := [_]) rfl rfl ?_
  exact rf_G.ret H rfl rfl
theorem rf_n12 {M : Nat} (hM : M < 12) : ¬ nI M = 12 := fun q => by
  have := (nI_eq (a := M) (b := 12) (by omega) (by decide)).mp q
  omega
theorem rc_still_3 (r : Nat) (R : rf_R) (w hot t q : Int32) (M : Nat) (hM : M < 12) (eM : R.1 0 0 = nI M) (hw : 0 ≤ w.toInt ∧ w.toInt ≤ 2) (hb : ¬ ((0 ≤ t.toInt ∧ t.toInt ≤ 2000) ∧ (1 ≤ q.toInt ∧ q.toInt ≤ 1000000))) : rf_C 147 r [.ref r, .int w, .int hot, .int t, .int q] R (some (.int 3)) R := by
  intro h H
  show rf_G r 147 0 [.ref r, .int w, .int hot, .int t, .int q, .retAddr 0] [] h _ _
  refine rf_G.step (pc' := 1) (st' := [_]) rfl rfl ?_
  refine rf_G.step (pc' := 2) (st' := [_]) rfl rfl ?_
  refine rf_G.step (pc' := 3) (st' := [_, _]) rfl rfl ?_
  refine rf_G.step (pc' := 6) (st' := [_, _, _]) rfl rfl ?_
  refine rf_G.s3 rfl (by decide) rfl (Nat.le_of_ble_eq_true rfl) (Nat.le_of_ble_eq_true rfl) (fun h => rc_inI _ _ _ h) ?_
  rw [rf_w]
  refine rf_G.brn rfl (fun _ => ?_) (fun z => absurd hw ((rf_o_0 _).mp z))
  refine rf_G.step (pc' := 15) (st' := [_]) rfl rfl ?_
  refine rf_G.get H rfl rfl ?_
  refine rf_G.step (pc' := 19) (st' := [_, _]) rfl rfl ?_
  refine rf_G.iald H 0 1 822 (by decide) rfl (rf_ix (n := 0) (by decide) (by decide)) ?_
  refine rf_G.step (pc' := 22) (st' := [_, _]) rfl rfl ?_
  rw [show R.1 0 (Int32.toNatClampNeg 0) = nI M from eM]
  refine rf_G.bcn rfl (fun _ => ?_) (fun z => absurd z (rf_n12 hM))
  refine rf_G.step (pc' := 28) (st' := [_]) rfl rfl ?_
  refine rf_G.step (pc' := 29) (st' := [_]) rfl rfl ?_
  refine rf_G.step (pc' := 30) (st' := [_, _]) rfl rfl ?_
  refine rf_G.step (pc' := 33) (st' := [_, _, _]) rfl rfl ?_
  refine rf_G.s3 rfl (by decide) rfl (Nat.le_of_ble_eq_true rfl) (Nat.le_of_ble_eq_true rfl) (fun h => rc_inI _ _ _ h) ?_
  rw [rf_w]
  refine rf_G.br rfl (jx_br_eq _ _) (fun _ => ?_) (fun z => ?_)
  · refine rf_G.step (pc' := 53) (st' := [_]) rfl rfl ?_
    exact rf_G.ret H rfl rfl
  · have z1 := Decidable.not_not.mp (fun y => z ((rf_o_0 _).mpr y))
    refine rf_G.step (pc' := 41) (st' := [_]) rfl rfl ?_
    refine rf_G.step (pc' := 42) (st' := [_]) rfl rfl ?_
    refine rf_G.step (pc' := 43) (st' := [_, _]) rfl rfl ?_
    refine rf_G.step (pc' := 46) (st' := [_, _, _]) rfl rfl ?_
    refine rf_G.s3 rfl (by decide) rfl (Nat.le_of_ble_eq_true rfl) (Nat.le_of_ble_eq_true rfl) (fun h => rc_inI _ _ _ h) ?_
    rw [rf_w]
    refine rf_G.brn rfl (fun y => absurd ((rf_o_0 _).mpr (fun u => hb ⟨z1, u⟩)) y) (fun _ => ?_)
    refine rf_G.step (pc' := 53) (st' := [_]) rfl rfl ?_
    exact rf_G.ret H rfl rfl
theorem rc_still (r : Nat) (R : rf_R) (B D : Nat) (hB : B < 201) (hD : D ≤ 200) (e2 : R.2.2.1 2 = nI B) (e3 : R.2.2.1 3 = nI D) (w hot t q : Int32) (M : Nat) (hM : M < 12) (eM : R.1 0 0 = nI M) (hw : 0 ≤ w.toInt ∧ w.toInt ≤ 2) (ht : 0 ≤ t.toInt ∧ t.toInt ≤ 2000) (hq : 1 ≤ q.toInt ∧ q.toInt ≤ 1000000) : rf_C 147 r [.ref r, .int w, .int hot, .int t, .int q] R (some (.int 0)) (rf_acts (rf_sA R 0 (upd (upd (rf_bg (R.1 0) M 1 hot w t) (2 + 24 * M + 5) q) 0 (nI (M + 1)))) B D) := by
  intro h H
  show rf_G r 147 0 [.ref r, .int w, .int hot, .int t, .int q, .retAddr 0] [] h _ _
  refine rf_G.step (pc' := 1) (st' := [_]) rfl rfl ?_
  refine rf_G.step (pc' := 2) (st' := [_]) rfl rfl ?_
  refine rf_G.step (pc' := 3) (st' := [_, _]) rfl rfl ?_
  refine rf_G.step (pc' := 6) (st' := [_, _, _]) rfl rfl ?_
  refine rf_G.s3 rfl (by decide) rfl (Nat.le_of_ble_eq_true rfl) (Nat.le_of_ble_eq_true rfl) (fun h => rc_inI _ _ _ h) ?_
  rw [rf_w]
  refine rf_G.brn rfl (fun _ => ?_) (fun z => absurd hw ((rf_o_0 _).mp z))
  refine rf_G.step (pc' := 15) (st' := [_]) rfl rfl ?_
  refine rf_G.get H rfl rfl ?_
  refine rf_G.step (pc' := 19) (st' := [_, _]) rfl rfl ?_
  refine rf_G.iald H 0 1 822 (by decide) rfl (rf_ix (n := 0) (by decide) (by decide)) ?_
  refine rf_G.step (pc' := 22) (st' := [_, _]) rfl rfl ?_
  rw [show R.1 0 (Int32.toNatClampNeg 0) = nI M from eM]
  refine rf_G.bcn rfl (fun _ => ?_) (fun z => absurd z (rf_n12 hM))
  refine rf_G.step (pc' := 28) (st' := [_]) rfl rfl ?_
  refine rf_G.step (pc' := 29) (st' := [_]) rfl rfl ?_
  refine rf_G.step (pc' := 30) (st' := [_, _]) rfl rfl ?_
  refine rf_G.step (pc' := 33) (st' := [_, _, _]) rfl rfl ?_
  refine rf_G.s3 rfl (by decide) rfl (Nat.le_of_ble_eq_true rfl) (Nat.le_of_ble_eq_true rfl) (fun h => rc_inI _ _ _ h) ?_
  rw [rf_w]
  refine rf_G.br rfl (jx_br_eq _ _) (fun z => absurd ht ((rf_o_0 _).mp z)) (fun _ => ?_)
  refine rf_G.step (pc' := 41) (st' := [_]) rfl rfl ?_
  refine rf_G.step (pc' := 42) (st' := [_]) rfl rfl ?_
  refine rf_G.step (pc' := 43) (st' := [_, _]) rfl rfl ?_
  refine rf_G.step (pc' := 46) (st' := [_, _, _]) rfl rfl ?_
  refine rf_G.s3 rfl (by decide) rfl (Nat.le_of_ble_eq_true rfl) (Nat.le_of_ble_eq_true rfl) (fun h => rc_inI _ _ _ h) ?_
  rw [rf_w]
  refine rf_G.brn rfl (fun _ => ?_) (fun z => absurd hq ((rf_o_0 _).mp z))
  refine rf_G.step (pc' := 55) (st' := [_]) rfl rfl ?_
  refine rf_G.step (pc' := 56) (st' := [_, _]) rfl rfl ?_
  refine rf_G.step (pc' := 57) (st' := [_, _, _]) rfl rfl ?_
  refine rf_G.step (pc' := 58) (st' := [_, _, _, _]) rfl rfl ?_
  refine rf_G.step (pc' := 59) (st' := [_, _, _, _, _]) rfl rfl ?_
  refine rf_G.v4I H rfl (by decide) rfl ⟨Nat.le_of_ble_eq_true rfl, rfl⟩ (Nat.le_of_ble_eq_true rfl) (rc_begins r R M hM eM 1 hot w t) (fun h H => ?_)
  refine rf_G.step (pc' := 64) (ls' := [_, _, _, _, _, _]) (st' := []) rfl rfl ?_
  refine rf_G.step (pc' := 65) (st' := [_]) rfl rfl ?_
  refine rf_G.get H rfl rfl ?_
  refine rf_G.step (pc' := 70) (st' := [_, _]) rfl rfl ?_
  refine rf_G.step (pc' := 71) (st' := [_, _, _]) rfl rfl ?_
  refine rf_G.step (pc' := 72) (st' := [_, _]) rfl rfl ?_
  rw [show nI (2 + 24 * M) + 5 = nI (2 + 24 * M + 5) by rw [rf_lit 5, nI_add]]
  refine rf_G.step (pc' := 74) (st' := [_, _, _]) rfl rfl ?_
  refine rf_G.iast H 0 1 822 (by decide) rfl (rf_ix (by omega) (by decide)) (fun h H => ?_)
  rw [nI_clamp (by omega), rf_sA_sA, rf_sA_at] at H
  have e0 : (rf_sA R 0 (upd (rf_bg (R.1 0) M 1 hot w t) (2 + 24 * M + 5) q)).1 0 0 = nI M := by
    rw [rf_sA_at, rf_up_ne (by omega), rf_bg_0]
    exact eM
  have key := rc_comes r (rf_sA R 0 (upd (rf_bg (R.1 0) M 1 hot w t) (2 + 24 * M + 5) q)) B D M hB hD e2 e3 e0
  rw [rf_sA_sA, rf_sA_at] at key
  refine rf_G.step (pc' := 76) (st' := [_]) rfl rfl ?_
  refine rf_G.v0I H rfl (by decide) rfl ⟨Nat.le_of_ble_eq_true rfl, rfl⟩ (Nat.le_of_ble_eq_true rfl) (key) (fun h H => ?_)
  exact rf_G.ret H rfl rfl
