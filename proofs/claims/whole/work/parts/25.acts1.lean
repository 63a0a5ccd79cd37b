/-! acts of the reference: gap, tear, empty, sheet, comes -/
theorem rf_sA_at (R : rf_R) (k : Nat) (f : Nat → Int32) : (rf_sA R k f).1 k = f := by simp [rf_sA]
theorem rf_nI {x : Int32} {n : Nat} (h : 0 ≤ x.toInt ∧ x.toInt ≤ n) (hn : n < 2 ^ 31) : ∃ j : Nat, j ≤ n ∧ x = nI j := by
  refine ⟨x.toInt.toNat, by omega, ?_⟩
  apply Int32.toInt_inj.mp
  rw [nI_toInt (by omega)]
  omega
theorem rc_gap_no (r : Nat) (R : rf_R) (g : Int32) (hg : ¬ (1 ≤ g.toInt ∧ g.toInt ≤ 200)) : rf_C 150 r [.ref r, .int g] R (some (.int 3)) R := by
  intro h H
  show rf_G r 150 0 [.ref r, .int g] [] h _ _
  refine rf_G.step (pc' := 1) (st' := [_]) rfl rfl ?_
  refine rf_G.step (pc' := 2) (st' := [_]) rfl rfl ?_
  refine rf_G.step (pc' := 3) (st' := [_, _]) rfl rfl ?_
  refine rf_G.step (pc' := 6) (st' := [_, _, _]) rfl rfl ?_
  refine rf_G.s3 rfl (by decide) rfl (Nat.le_of_ble_eq_true rfl) (Nat.le_of_ble_eq_true rfl) (fun h => rc_inI _ _ _ h) ?_
  rw [rf_w]
  refine rf_G.brn rfl (fun q => absurd ((rf_o_0 _).mpr hg) q) (fun _ => ?_)
  refine rf_G.step (pc' := 13) (st' := [_]) rfl rfl ?_
  exact rf_G.ret H rfl rfl
theorem rc_gap (r : Nat) (R : rf_R) (B D : Nat) (hB : B < 201) (hD : D ≤ 200) (e2 : R.2.2.1 2 = nI B) (e3 : R.2.2.1 3 = nI D) (g : Int32) (hg : 1 ≤ g.toInt ∧ g.toInt ≤ 200) : rf_C 150 r [.ref r, .int g] R (some (.int 0)) (rf_acts (rf_sA R 0 (upd (R.1 0) 1 g)) B D) := by
  intro h H
  show rf_G r 150 0 [.ref r, .int g] [] h _ _
  refine rf_G.step (pc' := 1) (st' := [_]) rfl rfl ?_
  refine rf_G.step (pc' := 2) (st' := [_]) rfl rfl ?_
  refine rf_G.step (pc' := 3) (st' := [_, _]) rfl rfl ?_
  refine rf_G.step (pc' := 6) (st' := [_, _, _]) rfl rfl ?_
  refine rf_G.s3 rfl (by decide) rfl (Nat.le_of_ble_eq_true rfl) (Nat.le_of_ble_eq_true rfl) (fun h => rc_inI _ _ _ h) ?_
  rw [rf_w]
  refine rf_G.brn rfl (fun _ => ?_) (fun q => absurd hg ((rf_o_0 _).mp q))
  refine rf_G.step (pc' := 15) (st' := [_]) rfl rfl ?_
  refine rf_G.get H rfl rfl ?_
  refine rf_G.step (pc' := 19) (st' := [_, _]) rfl rfl ?_
  refine rf_G.step (pc' := 20) (st' := [_, _, _]) rfl rfl ?_
  refine rf_G.iast H 0 1 822 (by decide) rfl (rf_ix (n := 1) (by decide) (by decide)) (fun h H => ?_)
  refine rf_G.step (pc' := 22) (st' := [_]) rfl rfl ?_
  refine rf_G.v0I H rfl (by decide) rfl ⟨Nat.le_of_ble_eq_true rfl, rfl⟩ (Nat.le_of_ble_eq_true rfl) (rc_acts r (rf_sA R 0 (upd (R.1 0) 1 g)) B D hB hD e2 e3) (fun h H => ?_)
  exact rf_G.ret H rfl rfl
theorem rc_tear_no (r : Nat) (R : rf_R) (k : Int32) (hk : ¬ (0 ≤ k.toInt ∧ k.toInt ≤ 7)) : rf_C 141 r [.ref r, .int k] R (some (.int 1)) R := by
  intro h H
  show rf_G r 141 0 [.ref r, .int k] [] h _ _
  refine rf_G.step (pc' := 1) (st' := [_]) rfl rfl ?_
  refine rf_G.step (pc' := 2) (st' := [_, _]) rfl rfl ?_
  refine rf_G.v1I H rfl (by decide) rfl ⟨Nat.le_of_ble_eq_true rfl, rfl⟩ (Nat.le_of_ble_eq_true rfl) (rc_isSheetI r R k) (fun h H => ?_)
  refine rf_G.brn rfl (fun q => absurd ((rf_o_0 _).mpr hk) q) (fun _ => ?_)
  refine rf_G.step (pc' := 9) (st' := [_]) rfl rfl ?_
  exact rf_G.ret H rfl rfl
theorem rf_k8 {k : Nat} (hk : k < 8) : 0 ≤ (nI k).toInt ∧ (nI k).toInt ≤ 7 := by rw [nI_toInt (by omega)]; omega
theorem rf_k4 {k : Nat} (hk : k < 4) : 0 ≤ (nI k).toInt ∧ (nI k).toInt ≤ 3 := by rw [nI_toInt (by omega)]; omega
theorem rc_tear (r : Nat) (R : rf_R) (B D : Nat) (hB : B < 201) (hD : D ≤ 200) (e2 : R.2.2.1 2 = nI B) (e3 : R.2.2.1 3 = nI D) (k : Nat) (hk : k < 8) : rf_C 141 r [.ref r, .int (nI k)] R (some (.int 0)) (rf_acts (rf_sA R 0 (upd (R.1 0) (290 + 18 * k) (-1))) B D) := by
  intro h H
  show rf_G r 141 0 [.ref r, .int (nI k)] [] h _ _
  refine rf_G.step (pc' := 1) (st' := [_]) rfl rfl ?_
  refine rf_G.step (pc' := 2) (st' := [_, _]) rfl rfl ?_
  refine rf_G.v1I H rfl (by decide) rfl ⟨Nat.le_of_ble_eq_true rfl, rfl⟩ (Nat.le_of_ble_eq_true rfl) (rc_isSheetI r R (nI k)) (fun h H => ?_)
  refine rf_G.brn rfl (fun _ => ?_) (fun q => absurd (rf_k8 hk) ((rf_o_0 _).mp q))
  refine rf_G.step (pc' := 11) (st' := [_]) rfl rfl ?_
  refine rf_G.get H rfl rfl ?_
  refine rf_G.step (pc' := 17) (st' := [_, _]) rfl rfl ?_
  refine rf_G.step (pc' := 19) (st' := [_, _, _]) rfl rfl ?_
  refine rf_G.step (pc' := 20) (st' := [_, _, _, _]) rfl rfl ?_
  refine rf_G.step (pc' := 21) (st' := [_, _, _]) rfl rfl ?_
  refine rf_G.step (pc' := 22) (st' := [_, _]) rfl rfl ?_
  rw [show (290 : Int32) + 18 * nI k = nI (290 + 18 * k) by rw [rf_lit 290, rf_lit 18, pk_mul, nI_add]]
  refine rf_G.step (pc' := 23) (st' := [_, _, _]) rfl rfl ?_
  refine rf_G.iast H 0 1 822 (by decide) rfl (rf_ix (by omega) (by decide)) (fun h H => ?_)
  rw [nI_clamp (by omega)] at H
  refine rf_G.step (pc' := 25) (st' := [_]) rfl rfl ?_
  refine rf_G.v0I H rfl (by decide) rfl ⟨Nat.le_of_ble_eq_true rfl, rfl⟩ (Nat.le_of_ble_eq_true rfl) (rc_acts r (rf_sA R 0 (upd (R.1 0) (290 + 18 * k) (-1))) B D hB hD e2 e3) (fun h H => ?_)
  exact rf_G.ret H rfl rfl
theorem rc_empty_no (r : Nat) (R : rf_R) (k : Int32) (hk : ¬ (0 ≤ k.toInt ∧ k.toInt ≤ 3)) : rf_C 180 r [.ref r, .int k] R (some (.int 1)) R := by
  intro h H
  show rf_G r 180 0 [.ref r, .int k] [] h _ _
  refine rf_G.step (pc' := 1) (st' := [_]) rfl rfl ?_
  refine rf_G.step (pc' := 2) (st' := [_, _]) rfl rfl ?_
  refine rf_G.v1I H rfl (by decide) rfl ⟨Nat.le_of_ble_eq_true rfl, rfl⟩ (Nat.le_of_ble_eq_true rfl) (rc_isNet r R k) (fun h H => ?_)
  refine rf_G.brn rfl (fun q => absurd ((rf_o_0 _).mpr hk) q) (fun _ => ?_)
  refine rf_G.step (pc' := 9) (st' := [_]) rfl rfl ?_
  exact rf_G.ret H rfl rfl
theorem rc_empty (r : Nat) (R : rf_R) (B D : Nat) (hB : B < 201) (hD : D ≤ 200) (e2 : R.2.2.1 2 = nI B) (e3 : R.2.2.1 3 = nI D) (k : Nat) (hk : k < 4) : rf_C 180 r [.ref r, .int (nI k)] R (some (.int 0)) (rf_acts (rf_sA R 0 (upd (R.1 0) (434 + 61 * k) 0)) B D) := by
  intro h H
  show rf_G r 180 0 [.ref r, .int (nI k)] [] h _ _
  refine rf_G.step (pc' := 1) (st' := [_]) rfl rfl ?_
  refine rf_G.step (pc' := 2) (st' := [_, _]) rfl rfl ?_
  refine rf_G.v1I H rfl (by decide) rfl ⟨Nat.le_of_ble_eq_true rfl, rfl⟩ (Nat.le_of_ble_eq_true rfl) (rc_isNet r R (nI k)) (fun h H => ?_)
  refine rf_G.brn rfl (fun _ => ?_) (fun q => absurd (rf_k4 hk) ((rf_o_0 _).mp q))
  refine rf_G.step (pc' := 11) (st' := [_]) rfl rfl ?_
  refine rf_G.get H rfl rfl ?_
  refine rf_G.step (pc' := 17) (st' := [_, _]) rfl rfl ?_
  refine rf_G.step (pc' := 19) (st' := [_, _, _]) rfl rfl ?_
  refine rf_G.step (pc' := 20) (st' := [_, _, _, _]) rfl rfl ?_
  refine rf_G.step (pc' := 21) (st' := [_, _, _]) rfl rfl ?_
  refine rf_G.step (pc' := 22) (st' := [_, _]) rfl rfl ?_
  rw [show (434 : Int32) + 61 * nI k = nI (434 + 61 * k) by rw [rf_lit 434, rf_lit 61, pk_mul, nI_add]]
  refine rf_G.step (pc' := 23) (st' := [_, _, _]) rfl rfl ?_
  refine rf_G.iast H 0 1 822 (by decide) rfl (rf_ix (by omega) (by decide)) (fun h H => ?_)
  rw [nI_clamp (by omega)] at H
  refine rf_G.step (pc' := 25) (st' := [_]) rfl rfl ?_
  refine rf_G.v0I H rfl (by decide) rfl ⟨Nat.le_of_ble_eq_true rfl, rfl⟩ (Nat.le_of_ble_eq_true rfl) (rc_acts r (rf_sA R 0 (upd (R.1 0) (434 + 61 * k) 0)) B D hB hD e2 e3) (fun h H => ?_)
  exact rf_G.ret H rfl rfl
theorem rc_sheet_1 (r : Nat) (R : rf_R) (k f n : Int32) (hk : ¬ ((0 ≤ k.toInt ∧ k.toInt ≤ 7) ∧ (0 ≤ f.toInt ∧ f.toInt ≤ 2))) : rf_C 134 r [.ref r, .int k, .int f, .int n] R (some (.int 1)) R := by
  intro h H
  show rf_G r 134 0 [.ref r, .int k, .int f, .int n, .retAddr 0] [] h _ _
  refine rf_G.step (pc' := 1) (st' := [_]) rfl rfl ?_
  refine rf_G.step (pc' := 2) (st' := [_, _]) rfl rfl ?_
  refine rf_G.v1I H rfl (by decide) rfl ⟨Nat.le_of_ble_eq_true rfl, rfl⟩ (Nat.le_of_ble_eq_true rfl) (rc_isSheetI r R k) (fun h H => ?_)
  refine rf_G.br rfl (jx_br_eq _ _) (fun _ => ?_) (fun q => ?_)
  · refine rf_G.step (pc' := 21) (st' := [_]) rfl rfl ?_
    exact rf_G.ret H rfl rfl
  · have q1 := Decidable.not_not.mp (fun z => q ((rf_o_0 _).mpr z))
    refine rf_G.step (pc' := 9) (st' := [_]) rfl rfl ?_
    refine rf_G.step (pc' := 10) (st' := [_]) rfl rfl ?_
    refine rf_G.step (pc' := 11) (st' := [_, _]) rfl rfl ?_
    refine rf_G.step (pc' := 14) (st' := [_, _, _]) rfl rfl ?_
    refine rf_G.s3 rfl (by decide) rfl (Nat.le_of_ble_eq_true rfl) (Nat.le_of_ble_eq_true rfl) (fun h => rc_inI _ _ _ h) ?_
    rw [rf_w]
    refine rf_G.brn rfl (fun z => absurd ((rf_o_0 _).mpr (fun y => hk ⟨q1, y⟩)) z) (fun _ => ?_)
    refine rf_G.step (pc' := 21) (st' := [_]) rfl rfl ?_
    exact rf_G.ret H rfl rfl
theorem rc_sheet_3 (r : Nat) (R : rf_R) (k f n : Int32) (hk : (0 ≤ k.toInt ∧ k.toInt ≤ 7) ∧ (0 ≤ f.toInt ∧ f.toInt ≤ 2)) (hn : ¬ (0 ≤ n.toInt ∧ n.toInt ≤ 16)) : rf_C 134 r [.ref r, .int k, .int f, .int n] R (some (.int 3)) R := by
  intro h H
  show rf_G r 134 0 [.ref r, .int k, .int f, .int n, .retAddr 0] [] h _ _
  refine rf_G.step (pc' := 1) (st' := [_]) rfl rfl ?_
  refine rf_G.step (pc' := 2) (st' := [_, _]) rfl rfl ?_
  refine rf_G.v1I H rfl (by decide) rfl ⟨Nat.le_of_ble_eq_true rfl, rfl⟩ (Nat.le_of_ble_eq_true rfl) (rc_isSheetI r R k) (fun h H => ?_)
  refine rf_G.br rfl (jx_br_eq _ _) (fun q => absurd hk.1 ((rf_o_0 _).mp q)) (fun _ => ?_)
  refine rf_G.step (pc' := 9) (st' := [_]) rfl rfl ?_
  refine rf_G.step (pc' := 10) (st' := [_]) rfl rfl ?_
  refine rf_G.step (pc' := 11) (st' := [_, _]) rfl rfl ?_
  refine rf_G.step (pc' := 14) (st' := [_, _, _]) rfl rfl ?_
  refine rf_G.s3 rfl (by decide) rfl (Nat.le_of_ble_eq_true rfl) (Nat.le_of_ble_eq_true rfl) (fun h => rc_inI _ _ _ h) ?_
  rw [rf_w]
  refine rf_G.brn rfl (fun _ => ?_) (fun q => absurd hk.2 ((rf_o_0 _).mp q))
  refine rf_G.step (pc' := 23) (st' := [_]) rfl rfl ?_
  refine rf_G.step (pc' := 24) (st' := [_]) rfl rfl ?_
  refine rf_G.step (pc' := 25) (st' := [_, _]) rfl rfl ?_
  refine rf_G.step (pc' := 28) (st' := [_, _, _]) rfl rfl ?_
  refine rf_G.s3 rfl (by decide) rfl (Nat.le_of_ble_eq_true rfl) (Nat.le_of_ble_eq_true rfl) (fun h => rc_inI _ _ _ h) ?_
  rw [rf_w]
  refine rf_G.brn rfl (fun q => absurd ((rf_o_0 _).mpr hn) q) (fun _ => ?_)
  refine rf_G.step (pc' := 35) (st' := [_]) rfl rfl ?_
  exact rf_G.ret H rfl rfl
def rf_shN (N : Nat → Int32) (k : Nat) (f n : Int32) : Nat → Int32 := rf_put (upd (upd N (290 + 18 * k) f) (290 + 18 * k + 1) n) (fun _ => 0) (290 + 18 * k + 2) 16
theorem rc_sheet (r : Nat) (R : rf_R) (B D : Nat) (hB : B < 201) (hD : D ≤ 200) (e2 : R.2.2.1 2 = nI B) (e3 : R.2.2.1 3 = nI D) (k : Nat) (f n : Int32) (hk : k < 8) (hf : 0 ≤ f.toInt ∧ f.toInt ≤ 2) (hn : 0 ≤ n.toInt ∧ n.toInt ≤ 16) : rf_C 134 r [.ref r, .int (nI k), .int f, .int n] R (some (.int 0)) (rf_acts (rf_sA R 0 (rf_shN (R.1 0) k f n)) B D) := by
  have loop : ∀ (d i : Nat), i + d = 16 → ∀ h, rf_At r (rf_sA R 0 (rf_put (upd (upd (R.1 0) (290 + 18 * k) f) (290 + 18 * k + 1) n) (fun _ => 0) (290 + 18 * k + 2) i)) h → rf_G r 134 69 [.ref r, .int (nI k), .int f, .int n, .int (nI i)] [] h (some (.int 0)) (rf_acts (rf_sA R 0 (rf_shN (R.1 0) k f n)) B D) := by
    intro d
    induction d with
    | zero =>
      intro i hi h H
      obtain rfl : i = 16 := by omega
      refine rf_G.step (pc' := 71) (st' := [_]) rfl rfl ?_
      refine rf_G.step (pc' := 73) (st' := [_, _]) rfl rfl ?_
      refine rf_G.bc rfl (jx_br_ge _ _) (fun _ => ?_) (fun q => absurd (Int32.le_refl _) q)
      refine rf_G.step (pc' := 102) (st' := [_]) rfl rfl ?_
      refine rf_G.v0I H rfl (by decide) rfl ⟨Nat.le_of_ble_eq_true rfl, rfl⟩ (Nat.le_of_ble_eq_true rfl) (rc_acts r (rf_sA R 0 (rf_shN (R.1 0) k f n)) B D hB hD e2 e3) (fun h H => ?_)
      exact rf_G.ret H rfl rfl
    | succ d ih =>
      intro i hi h H
      refine rf_G.step (pc' := 71) (st' := [_]) rfl rfl ?_
      refine rf_G.step (pc' := 73) (st' := [_, _]) rfl rfl ?_
      refine rf_G.bc rfl (jx_br_ge _ _) (fun q => absurd q (by rw [rf_lit 16]; exact nI_ge (by omega) (by decide))) (fun _ => ?_)
      refine rf_G.step (pc' := 77) (st' := [_]) rfl rfl ?_
      refine rf_G.get H rfl rfl ?_
      refine rf_G.step (pc' := 83) (st' := [_, _]) rfl rfl ?_
      refine rf_G.step (pc' := 85) (st' := [_, _, _]) rfl rfl ?_
      refine rf_G.step (pc' := 86) (st' := [_, _, _, _]) rfl rfl ?_
      refine rf_G.step (pc' := 87) (st' := [_, _, _]) rfl rfl ?_
      refine rf_G.step (pc' := 88) (st' := [_, _]) rfl rfl ?_
      refine rf_G.step (pc' := 89) (st' := [_, _, _]) rfl rfl ?_
      refine rf_G.step (pc' := 90) (st' := [_, _]) rfl rfl ?_
      refine rf_G.step (pc' := 92) (st' := [_, _, _]) rfl rfl ?_
      refine rf_G.step (pc' := 93) (st' := [_, _]) rfl rfl ?_
      rw [show (290 : Int32) + 18 * nI k + 2 + nI i = nI (290 + 18 * k + 2 + i) by rw [rf_lit 290, rf_lit 18, rf_lit 2, pk_mul, nI_add, nI_add, nI_add]]
      refine rf_G.step (pc' := 94) (st' := [_, _, _]) rfl rfl ?_
      refine rf_G.iast H 0 1 822 (by decide) rfl (rf_ix (by omega) (by decide)) (fun h H => ?_)
      rw [nI_clamp (by omega), rf_sA_sA, rf_sA_at, rf_put_s _ (fun _ => 0)] at H
      refine rf_G.step (pc' := 98) (ls' := [_, _, _, _, _]) (st' := []) rfl rfl ?_
      refine rf_G.step (pc' := 69) (st' := []) rfl rfl ?_
      show rf_G r 134 69 [.ref r, .int (nI k), .int f, .int n, .int (nI i + 1)] [] h _ _
      rw [nI_1]
      exact ih (i + 1) (by omega) h H
  intro h H
  show rf_G r 134 0 [.ref r, .int (nI k), .int f, .int n, .retAddr 0] [] h _ _
  refine rf_G.step (pc' := 1) (st' := [_]) rfl rfl ?_
  refine rf_G.step (pc' := 2) (st' := [_, _]) rfl rfl ?_
  refine rf_G.v1I H rfl (by decide) rfl ⟨Nat.le_of_ble_eq_true rfl, rfl⟩ (Nat.le_of_ble_eq_true rfl) (rc_isSheetI r R (nI k)) (fun h H => ?_)
  refine rf_G.br rfl (jx_br_eq _ _) (fun q => absurd (rf_k8 hk) ((rf_o_0 _).mp q)) (fun _ => ?_)
  refine rf_G.step (pc' := 9) (st' := [_]) rfl rfl ?_
  refine rf_G.step (pc' := 10) (st' := [_]) rfl rfl ?_
  refine rf_G.step (pc' := 11) (st' := [_, _]) rfl rfl ?_
  refine rf_G.step (pc' := 14) (st' := [_, _, _]) rfl rfl ?_
  refine rf_G.s3 rfl (by decide) rfl (Nat.le_of_ble_eq_true rfl) (Nat.le_of_ble_eq_true rfl) (fun h => rc_inI _ _ _ h) ?_
  rw [rf_w]
  refine rf_G.brn rfl (fun _ => ?_) (fun q => absurd hf ((rf_o_0 _).mp q))
  refine rf_G.step (pc' := 23) (st' := [_]) rfl rfl ?_
  refine rf_G.step (pc' := 24) (st' := [_]) rfl rfl ?_
  refine rf_G.step (pc' := 25) (st' := [_, _]) rfl rfl ?_
  refine rf_G.step (pc' := 28) (st' := [_, _, _]) rfl rfl ?_
  refine rf_G.s3 rfl (by decide) rfl (Nat.le_of_ble_eq_true rfl) (Nat.le_of_ble_eq_true rfl) (fun h => rc_inI _ _ _ h) ?_
  rw [rf_w]
  refine rf_G.brn rfl (fun _ => ?_) (fun q => absurd hn ((rf_o_0 _).mp q))
  refine rf_G.step (pc' := 37) (st' := [_]) rfl rfl ?_
  refine rf_G.get H rfl rfl ?_
  refine rf_G.step (pc' := 43) (st' := [_, _]) rfl rfl ?_
  refine rf_G.step (pc' := 45) (st' := [_, _, _]) rfl rfl ?_
  refine rf_G.step (pc' := 46) (st' := [_, _, _, _]) rfl rfl ?_
  refine rf_G.step (pc' := 47) (st' := [_, _, _]) rfl rfl ?_
  refine rf_G.step (pc' := 48) (st' := [_, _]) rfl rfl ?_
  rw [show (290 : Int32) + 18 * nI k = nI (290 + 18 * k) by rw [rf_lit 290, rf_lit 18, pk_mul, nI_add]]
  refine rf_G.step (pc' := 49) (st' := [_, _, _]) rfl rfl ?_
  refine rf_G.iast H 0 1 822 (by decide) rfl (rf_ix (by omega) (by decide)) (fun h H => ?_)
  rw [nI_clamp (by omega)] at H
  refine rf_G.step (pc' := 51) (st' := [_]) rfl rfl ?_
  refine rf_G.get H rfl rfl ?_
  refine rf_G.step (pc' := 57) (st' := [_, _]) rfl rfl ?_
  refine rf_G.step (pc' := 59) (st' := [_, _, _]) rfl rfl ?_
  refine rf_G.step (pc' := 60) (st' := [_, _, _, _]) rfl rfl ?_
  refine rf_G.step (pc' := 61) (st' := [_, _, _]) rfl rfl ?_
  refine rf_G.step (pc' := 62) (st' := [_, _]) rfl rfl ?_
  refine rf_G.step (pc' := 63) (st' := [_, _, _]) rfl rfl ?_
  refine rf_G.step (pc' := 64) (st' := [_, _]) rfl rfl ?_
  rw [show (290 : Int32) + 18 * nI k + 1 = nI (290 + 18 * k + 1) by rw [rf_lit 290, rf_lit 18, rf_lit 1, pk_mul, nI_add, nI_add]]
  refine rf_G.step (pc' := 65) (st' := [_, _, _]) rfl rfl ?_
  refine rf_G.iast H 0 1 822 (by decide) rfl (rf_ix (by omega) (by decide)) (fun h H => ?_)
  rw [nI_clamp (by omega), rf_sA_sA, rf_sA_at] at H
  refine rf_G.step (pc' := 67) (st' := [_]) rfl rfl ?_
  refine rf_G.step (pc' := 69) (ls' := [_, _, _, _, _]) (st' := []) rfl rfl ?_
  exact loop 16 0 (by decide) h (by rw [rf_put_0]; exact H)
theorem rc_comes (r : Nat) (R : rf_R) (B D M : Nat) (hB : B < 201) (hD : D ≤ 200) (e2 : R.2.2.1 2 = nI B) (e3 : R.2.2.1 3 = nI D) (eM : R.1 0 0 = nI M) : rf_C 146 r [.ref r] R (some (.int 0)) (rf_acts (rf_sA R 0 (upd (R.1 0) 0 (nI (M + 1)))) B D) := by
  intro h H
  show rf_G r 146 0 [.ref r] [] h _ _
  refine rf_G.step (pc' := 1) (st' := [_]) rfl rfl ?_
  refine rf_G.get H rfl rfl ?_
  refine rf_G.step (pc' := 5) (st' := [_, _]) rfl rfl ?_
  refine rf_G.step (pc' := 6) (st' := [_, _, _, _]) rfl rfl ?_
  refine rf_G.iald H 0 1 822 (by decide) rfl (rf_ix (n := 0) (by decide) (by decide)) ?_
  rw [show R.1 0 (Int32.toNatClampNeg 0) = nI M from eM]
  refine rf_G.step (pc' := 8) (st' := [_, _, _, _]) rfl rfl ?_
  refine rf_G.step (pc' := 9) (st' := [_, _, _]) rfl rfl ?_
  rw [nI_1]
  refine rf_G.iast H 0 1 822 (by decide) rfl (rf_ix (n := 0) (by decide) (by decide)) (fun h H => ?_)
  refine rf_G.step (pc' := 11) (st' := [_]) rfl rfl ?_
  refine rf_G.v0I H rfl (by decide) rfl ⟨Nat.le_of_ble_eq_true rfl, rfl⟩ (Nat.le_of_ble_eq_true rfl) (rc_acts r (rf_sA R 0 (upd (R.1 0) 0 (nI (M + 1)))) B D hB hD e2 e3) (fun h H => ?_)
  exact rf_G.ret H rfl rfl
