/-! the reference's sums: total, ends; cell -/
def rf_tot (N : Nat → Int32) (s : Nat) : Nat → Int32
  | 0 => 0
  | k + 1 => rf_tot N s k + N (2 + 24 * s + (6 + 2 * k)) * N (2 + 24 * s + (7 + 2 * k))
def rf_end (N : Nat → Int32) (s : Nat) : Nat → Int32
  | 0 => N (2 + 24 * s + 3)
  | k + 1 => rf_end N s k + (if N (2 + 24 * s + 1) = 1 then -(N (2 + 24 * s + (6 + 2 * k))) else N (2 + 24 * s + (6 + 2 * k)))
theorem rc_total (r : Nat) (R : rf_R) (s p : Nat) (hs : s < 12) (hp : p ≤ 8) (ep : R.1 0 (2 + 24 * s + 4) = nI p) : rf_C 156 r [.ref r, .int (nI s)] R (some (.int (if R.1 0 (2 + 24 * s) = 1 then R.1 0 (2 + 24 * s + 5) else rf_tot (R.1 0) s p))) R := by
  have loop : ∀ (d k : Nat), k + d = p → ∀ h, rf_At r R h → rf_G r 156 21 [.ref r, .int (nI s), .int (rf_tot (R.1 0) s k), .int (nI k)] [] h (some (.int (rf_tot (R.1 0) s p))) R := by
    intro d
    induction d with
    | zero =>
      intro k hk h H
      obtain rfl : k = p := by omega
      refine rf_G.step (pc' := 22) (st' := [_]) rfl rfl ?_
      refine rf_G.step (pc' := 23) (st' := [_, _]) rfl rfl ?_
      refine rf_G.step (pc' := 24) (st' := [_, _, _]) rfl rfl ?_
      refine rf_G.step (pc' := 25) (st' := [_, _, _, _]) rfl rfl ?_
      refine rf_G.v2I H rfl (by decide) rfl ⟨Nat.le_of_ble_eq_true rfl, rfl⟩ (Nat.le_of_ble_eq_true rfl) (rc_of r R s 4 hs (by decide)) (fun h H => ?_)
      rw [ep]
      refine rf_G.bc rfl (jx_br_ge _ _) (fun _ => ?_) (fun q => absurd (Int32.le_refl _) q)
      refine rf_G.step (pc' := 64) (st' := [_]) rfl rfl ?_
      exact rf_G.ret H rfl rfl
    | succ d ih =>
      intro k hk h H
      refine rf_G.step (pc' := 22) (st' := [_]) rfl rfl ?_
      refine rf_G.step (pc' := 23) (st' := [_, _]) rfl rfl ?_
      refine rf_G.step (pc' := 24) (st' := [_, _, _]) rfl rfl ?_
      refine rf_G.step (pc' := 25) (st' := [_, _, _, _]) rfl rfl ?_
      refine rf_G.v2I H rfl (by decide) rfl ⟨Nat.le_of_ble_eq_true rfl, rfl⟩ (Nat.le_of_ble_eq_true rfl) (rc_of r R s 4 hs (by decide)) (fun h H => ?_)
      rw [ep]
      refine rf_G.bc rfl (jx_br_ge _ _) (fun q => absurd q (nI_ge (by omega) (by omega))) (fun _ => ?_)
      refine rf_G.step (pc' := 32) (st' := [_]) rfl rfl ?_
      refine rf_G.step (pc' := 33) (st' := [_, _]) rfl rfl ?_
      refine rf_G.step (pc' := 34) (st' := [_, _, _]) rfl rfl ?_
      refine rf_G.step (pc' := 36) (st' := [_, _, _, _]) rfl rfl ?_
      refine rf_G.step (pc' := 37) (st' := [_, _, _, _, _]) rfl rfl ?_
      refine rf_G.step (pc' := 38) (st' := [_, _, _, _, _, _]) rfl rfl ?_
      refine rf_G.step (pc' := 39) (st' := [_, _, _, _, _]) rfl rfl ?_
      refine rf_G.step (pc' := 40) (st' := [_, _, _, _]) rfl rfl ?_
      rw [show (6 : Int32) + 2 * nI k = nI (6 + 2 * k) by rw [rf_lit 6, rf_lit 2, pk_mul, nI_add]]
      refine rf_G.v2I H rfl (by decide) rfl ⟨Nat.le_of_ble_eq_true rfl, rfl⟩ (Nat.le_of_ble_eq_true rfl) (rc_of r R s (6 + 2 * k) hs (by omega)) (fun h H => ?_)
      refine rf_G.step (pc' := 44) (st' := [_, _, _]) rfl rfl ?_
      refine rf_G.step (pc' := 45) (st' := [_, _, _, _]) rfl rfl ?_
      refine rf_G.step (pc' := 47) (st' := [_, _, _, _, _]) rfl rfl ?_
      refine rf_G.step (pc' := 48) (st' := [_, _, _, _, _, _]) rfl rfl ?_
      refine rf_G.step (pc' := 49) (st' := [_, _, _, _, _, _, _]) rfl rfl ?_
      refine rf_G.step (pc' := 50) (st' := [_, _, _, _, _, _]) rfl rfl ?_
      refine rf_G.step (pc' := 51) (st' := [_, _, _, _, _]) rfl rfl ?_
      rw [show (7 : Int32) + 2 * nI k = nI (7 + 2 * k) by rw [rf_lit 7, rf_lit 2, pk_mul, nI_add]]
      refine rf_G.v2I H rfl (by decide) rfl ⟨Nat.le_of_ble_eq_true rfl, rfl⟩ (Nat.le_of_ble_eq_true rfl) (rc_of r R s (7 + 2 * k) hs (by omega)) (fun h H => ?_)
      refine rf_G.step (pc' := 55) (st' := [_, _]) rfl rfl ?_
      refine rf_G.step (pc' := 56) (st' := [_]) rfl rfl ?_
      refine rf_G.step (pc' := 57) (ls' := [_, _, _, _]) (st' := []) rfl rfl ?_
      refine rf_G.step (pc' := 60) (ls' := [_, _, _, _]) (st' := []) rfl rfl ?_
      refine rf_G.step (pc' := 21) (st' := []) rfl rfl ?_
      rw [nI_1]
      exact ih (k + 1) (by omega) h H
  intro h H
  show rf_G r 156 0 [.ref r, .int (nI s), .retAddr 0, .retAddr 0] [] h _ _
  refine rf_G.step (pc' := 1) (st' := [_]) rfl rfl ?_
  refine rf_G.step (pc' := 2) (st' := [_, _]) rfl rfl ?_
  refine rf_G.step (pc' := 3) (st' := [_, _, _]) rfl rfl ?_
  refine rf_G.v2I H rfl (by decide) rfl ⟨Nat.le_of_ble_eq_true rfl, rfl⟩ (Nat.le_of_ble_eq_true rfl) (rc_of r R s 0 hs (by decide)) (fun h H => ?_)
  refine rf_G.step (pc' := 7) (st' := [_, _]) rfl rfl ?_
  rw [Nat.add_zero]
  refine rf_G.bcn rfl (fun q => ?_) (fun q => ?_)
  · rw [if_neg q]
    refine rf_G.step (pc' := 18) (st' := [_]) rfl rfl ?_
    refine rf_G.step (pc' := 19) (ls' := [_, _, _, _]) (st' := []) rfl rfl ?_
    refine rf_G.step (pc' := 20) (st' := [_]) rfl rfl ?_
    refine rf_G.step (pc' := 21) (ls' := [_, _, _, _]) (st' := []) rfl rfl ?_
    exact loop p 0 (by omega) h H
  · rw [if_pos q]
    refine rf_G.step (pc' := 11) (st' := [_]) rfl rfl ?_
    refine rf_G.step (pc' := 12) (st' := [_, _]) rfl rfl ?_
    refine rf_G.step (pc' := 13) (st' := [_, _, _]) rfl rfl ?_
    refine rf_G.v2I H rfl (by decide) rfl ⟨Nat.le_of_ble_eq_true rfl, rfl⟩ (Nat.le_of_ble_eq_true rfl) (rc_of r R s 5 hs (by decide)) (fun h H => ?_)
    exact rf_G.ret H rfl rfl
theorem rc_ends (r : Nat) (R : rf_R) (s p : Nat) (hs : s < 12) (hp : p ≤ 8) (ep : R.1 0 (2 + 24 * s + 4) = nI p) : rf_C 155 r [.ref r, .int (nI s)] R (some (.int (rf_end (R.1 0) s p))) R := by
  have loop : ∀ (d k : Nat), k + d = p → ∀ h, rf_At r R h → rf_G r 155 9 [.ref r, .int (nI s), .int (rf_end (R.1 0) s k), .int (nI k)] [] h (some (.int (rf_end (R.1 0) s p))) R := by
    intro d
    induction d with
    | zero =>
      intro k hk h H
      obtain rfl : k = p := by omega
      refine rf_G.step (pc' := 10) (st' := [_]) rfl rfl ?_
      refine rf_G.step (pc' := 11) (st' := [_, _]) rfl rfl ?_
      refine rf_G.step (pc' := 12) (st' := [_, _, _]) rfl rfl ?_
      refine rf_G.step (pc' := 13) (st' := [_, _, _, _]) rfl rfl ?_
      refine rf_G.v2I H rfl (by decide) rfl ⟨Nat.le_of_ble_eq_true rfl, rfl⟩ (Nat.le_of_ble_eq_true rfl) (rc_of r R s 4 hs (by decide)) (fun h H => ?_)
      rw [ep]
      refine rf_G.bc rfl (jx_br_ge _ _) (fun _ => ?_) (fun q => absurd (Int32.le_refl _) q)
      refine rf_G.step (pc' := 65) (st' := [_]) rfl rfl ?_
      exact rf_G.ret H rfl rfl
    | succ d ih =>
      intro k hk h H
      refine rf_G.step (pc' := 10) (st' := [_]) rfl rfl ?_
      refine rf_G.step (pc' := 11) (st' := [_, _]) rfl rfl ?_
      refine rf_G.step (pc' := 12) (st' := [_, _, _]) rfl rfl ?_
      refine rf_G.step (pc' := 13) (st' := [_, _, _, _]) rfl rfl ?_
      refine rf_G.v2I H rfl (by decide) rfl ⟨Nat.le_of_ble_eq_true rfl, rfl⟩ (Nat.le_of_ble_eq_true rfl) (rc_of r R s 4 hs (by decide)) (fun h H => ?_)
      rw [ep]
      refine rf_G.bc rfl (jx_br_ge _ _) (fun q => absurd q (nI_ge (by omega) (by omega))) (fun _ => ?_)
      have e6 : (6 : Int32) + 2 * nI k = nI (6 + 2 * k) := by rw [rf_lit 6, rf_lit 2, pk_mul, nI_add]
      have nxt := ih (k + 1) (by omega)
      rw [← nI_1] at nxt
      refine rf_G.step (pc' := 20) (st' := [_]) rfl rfl ?_
      refine rf_G.step (pc' := 21) (st' := [_, _]) rfl rfl ?_
      refine rf_G.step (pc' := 22) (st' := [_, _, _]) rfl rfl ?_
      refine rf_G.step (pc' := 23) (st' := [_, _, _, _]) rfl rfl ?_
      refine rf_G.v2I H rfl (by decide) rfl ⟨Nat.le_of_ble_eq_true rfl, rfl⟩ (Nat.le_of_ble_eq_true rfl) (rc_of r R s 1 hs (by decide)) (fun h H => ?_)
      refine rf_G.step (pc' := 27) (st' := [_, _, _]) rfl rfl ?_
      refine rf_G.bcn rfl (fun q => ?_) (fun q => ?_)
      · refine rf_G.step (pc' := 46) (st' := [_, _]) rfl rfl ?_
        refine rf_G.step (pc' := 47) (st' := [_, _, _]) rfl rfl ?_
        refine rf_G.step (pc' := 49) (st' := [_, _, _, _]) rfl rfl ?_
        refine rf_G.step (pc' := 50) (st' := [_, _, _, _, _]) rfl rfl ?_
        refine rf_G.step (pc' := 51) (st' := [_, _, _, _, _, _]) rfl rfl ?_
        refine rf_G.step (pc' := 52) (st' := [_, _, _, _, _]) rfl rfl ?_
        refine rf_G.step (pc' := 53) (st' := [_, _, _, _]) rfl rfl ?_
        rw [e6]
        refine rf_G.v2I H rfl (by decide) rfl ⟨Nat.le_of_ble_eq_true rfl, rfl⟩ (Nat.le_of_ble_eq_true rfl) (rc_of r R s (6 + 2 * k) hs (by omega)) (fun h H => ?_)
        refine rf_G.step (pc' := 57) (st' := [_]) rfl rfl ?_
        refine rf_G.step (pc' := 58) (ls' := [_, _, _, _]) (st' := []) rfl rfl ?_
        refine rf_G.step (pc' := 61) (ls' := [_, _, _, _]) (st' := []) rfl rfl ?_
        refine rf_G.step (pc' := 9) (st' := []) rfl rfl ?_
        have n2 := nxt h H
        rw [show rf_end (R.1 0) s (k + 1) = rf_end (R.1 0) s k + R.1 0 (2 + 24 * s + (6 + 2 * k)) by rw [rf_end, if_neg q]] at n2
        exact n2
      · refine rf_G.step (pc' := 31) (st' := [_, _]) rfl rfl ?_
        refine rf_G.step (pc' := 32) (st' := [_, _, _]) rfl rfl ?_
        refine rf_G.step (pc' := 34) (st' := [_, _, _, _]) rfl rfl ?_
        refine rf_G.step (pc' := 35) (st' := [_, _, _, _, _]) rfl rfl ?_
        refine rf_G.step (pc' := 36) (st' := [_, _, _, _, _, _]) rfl rfl ?_
        refine rf_G.step (pc' := 37) (st' := [_, _, _, _, _]) rfl rfl ?_
        refine rf_G.step (pc' := 38) (st' := [_, _, _, _]) rfl rfl ?_
        rw [e6]
        refine rf_G.v2I H rfl (by decide) rfl ⟨Nat.le_of_ble_eq_true rfl, rfl⟩ (Nat.le_of_ble_eq_true rfl) (rc_of r R s (6 + 2 * k) hs (by omega)) (fun h H => ?_)
        refine rf_G.step (pc' := 42) (st' := [_, _]) rfl rfl ?_
        refine rf_G.step (pc' := 56) (st' := [_, _]) rfl rfl ?_
        refine rf_G.step (pc' := 57) (st' := [_]) rfl rfl ?_
        refine rf_G.step (pc' := 58) (ls' := [_, _, _, _]) (st' := []) rfl rfl ?_
        refine rf_G.step (pc' := 61) (ls' := [_, _, _, _]) (st' := []) rfl rfl ?_
        refine rf_G.step (pc' := 9) (st' := []) rfl rfl ?_
        have n2 := nxt h H
        rw [show rf_end (R.1 0) s (k + 1) = rf_end (R.1 0) s k + -(R.1 0 (2 + 24 * s + (6 + 2 * k))) by rw [rf_end, if_pos q]] at n2
        exact n2
  intro h H
  show rf_G r 155 0 [.ref r, .int (nI s), .retAddr 0, .retAddr 0] [] h _ _
  refine rf_G.step (pc' := 1) (st' := [_]) rfl rfl ?_
  refine rf_G.step (pc' := 2) (st' := [_, _]) rfl rfl ?_
  refine rf_G.step (pc' := 3) (st' := [_, _, _]) rfl rfl ?_
  refine rf_G.v2I H rfl (by decide) rfl ⟨Nat.le_of_ble_eq_true rfl, rfl⟩ (Nat.le_of_ble_eq_true rfl) (rc_of r R s 3 hs (by decide)) (fun h H => ?_)
  refine rf_G.step (pc' := 7) (ls' := [_, _, _, _]) (st' := []) rfl rfl ?_
  refine rf_G.step (pc' := 8) (st' := [_]) rfl rfl ?_
  refine rf_G.step (pc' := 9) (ls' := [_, _, _, _]) (st' := []) rfl rfl ?_
  exact loop p 0 (by omega) h H
/-- what a sheet keeps of a number, by its form -/
def rf_nar (f v : Int32) : Int32 := if f = 0 then v.toInt8.toInt32 else if f = 1 then v.toInt16.toInt32 else v
theorem rf_k16 {i : Nat} (hi : i < 16) : 0 ≤ (nI i).toInt ∧ (nI i).toInt ≤ 15 := by rw [nI_toInt (by omega)]; omega
theorem rc_cell_1 (r : Nat) (R : rf_R) (k i v : Int32) (hb : ¬ ((0 ≤ k.toInt ∧ k.toInt ≤ 7) ∧ (0 ≤ i.toInt ∧ i.toInt ≤ 15))) : rf_C 138 r [.ref r, .int k, .int i, .int v] R (some (.int 1)) R := by
  intro h H
  show rf_G r 138 0 [.ref r, .int k, .int i, .int v] [] h _ _
  refine rf_G.step (pc' := 1) (st' := [_]) rfl rfl ?_
  refine rf_G.step (pc' := 2) (st' := [_, _]) rfl rfl ?_
  refine rf_G.v1I H rfl (by decide) rfl ⟨Nat.le_of_ble_eq_true rfl, rfl⟩ (Nat.le_of_ble_eq_true rfl) (rc_isSheetI r R k) (fun h H => ?_)
  refine rf_G.br rfl (jx_br_eq _ _) (fun _ => ?_) (fun z => ?_)
  · refine rf_G.step (pc' := 21) (st' := [_]) rfl rfl ?_
    exact rf_G.ret H rfl rfl
  · have z1 := Decidable.not_not.mp (fun y => z ((rf_o_0 _).mpr y))
    refine rf_G.step (pc' := 9) (st' := [_]) rfl rfl ?_
    refine rf_G.step (pc' := 10) (st' := [_]) rfl rfl ?_
    refine rf_G.step (pc' := 11) (st' := [_, _]) rfl rfl ?_
    refine rf_G.step (pc' := 14) (st' := [_, _, _]) rfl rfl ?_
    refine rf_G.s3 rfl (by decide) rfl (Nat.le_of_ble_eq_true rfl) (Nat.le_of_ble_eq_true rfl) (fun h => rc_inI _ _ _ h) ?_
    rw [rf_w]
    refine rf_G.brn rfl (fun y => absurd ((rf_o_0 _).mpr (fun u => hb ⟨z1, u⟩)) y) (fun _ => ?_)
    refine rf_G.step (pc' := 21) (st' := [_]) rfl rfl ?_
    exact rf_G.ret H rfl rfl
theorem rc_cell_4 (r : Nat) (R : rf_R) (k i : Nat) (hk : k < 8) (hi : i < 16) (v : Int32) (hf : R.1 0 (290 + 18 * k) = -1) : rf_C 138 r [.ref r, .int (nI k), .int (nI i), .int v] R (some (.int 4)) R := by
  intro h H
  show rf_G r 138 0 [.ref r, .int (nI k), .int (nI i), .int v] [] h _ _
  refine rf_G.step (pc' := 1) (st' := [_]) rfl rfl ?_
  refine rf_G.step (pc' := 2) (st' := [_, _]) rfl rfl ?_
  refine rf_G.v1I H rfl (by decide) rfl ⟨Nat.le_of_ble_eq_true rfl, rfl⟩ (Nat.le_of_ble_eq_true rfl) (rc_isSheetI r R (nI k)) (fun h H => ?_)
  refine rf_G.br rfl (jx_br_eq _ _) (fun z => absurd (rf_k8 hk) ((rf_o_0 _).mp z)) (fun _ => ?_)
  refine rf_G.step (pc' := 9) (st' := [_]) rfl rfl ?_
  refine rf_G.step (pc' := 10) (st' := [_]) rfl rfl ?_
  refine rf_G.step (pc' := 11) (st' := [_, _]) rfl rfl ?_
  refine rf_G.step (pc' := 14) (st' := [_, _, _]) rfl rfl ?_
  refine rf_G.s3 rfl (by decide) rfl (Nat.le_of_ble_eq_true rfl) (Nat.le_of_ble_eq_true rfl) (fun h => rc_inI _ _ _ h) ?_
  rw [rf_w]
  refine rf_G.brn rfl (fun _ => ?_) (fun z => absurd (rf_k16 hi) ((rf_o_0 _).mp z))
  refine rf_G.step (pc' := 23) (st' := [_]) rfl rfl ?_
  refine rf_G.step (pc' := 24) (st' := [_, _]) rfl rfl ?_
  refine rf_G.v1I H rfl (by decide) rfl ⟨Nat.le_of_ble_eq_true rfl, rfl⟩ (Nat.le_of_ble_eq_true rfl) (rc_form r R k hk) (fun h H => ?_)
  refine rf_G.step (pc' := 28) (st' := [_, _]) rfl rfl ?_
  refine rf_G.bcn rfl (fun z => absurd hf z) (fun _ => ?_)
  refine rf_G.step (pc' := 32) (st' := [_]) rfl rfl ?_
  exact rf_G.ret H rfl rfl
theorem rc_cell_5 (r : Nat) (R : rf_R) (k i l : Nat) (hk : k < 8) (hi : i < 16) (v : Int32) (hf : ¬ R.1 0 (290 + 18 * k) = -1) (hl : l ≤ 16) (el : R.1 0 (290 + 18 * k + 1) = nI l) (hil : l ≤ i) : rf_C 138 r [.ref r, .int (nI k), .int (nI i), .int v] R (some (.int 5)) R := by
  intro h H
  show rf_G r 138 0 [.ref r, .int (nI k), .int (nI i), .int v] [] h _ _
  refine rf_G.step (pc' := 1) (st' := [_]) rfl rfl ?_
  refine rf_G.step (pc' := 2) (st' := [_, _]) rfl rfl ?_
  refine rf_G.v1I H rfl (by decide) rfl ⟨Nat.le_of_ble_eq_true rfl, rfl⟩ (Nat.le_of_ble_eq_true rfl) (rc_isSheetI r R (nI k)) (fun h H => ?_)
  refine rf_G.br rfl (jx_br_eq _ _) (fun z => absurd (rf_k8 hk) ((rf_o_0 _).mp z)) (fun _ => ?_)
  refine rf_G.step (pc' := 9) (st' := [_]) rfl rfl ?_
  refine rf_G.step (pc' := 10) (st' := [_]) rfl rfl ?_
  refine rf_G.step (pc' := 11) (st' := [_, _]) rfl rfl ?_
  refine rf_G.step (pc' := 14) (st' := [_, _, _]) rfl rfl ?_
  refine rf_G.s3 rfl (by decide) rfl (Nat.le_of_ble_eq_true rfl) (Nat.le_of_ble_eq_true rfl) (fun h => rc_inI _ _ _ h) ?_
  rw [rf_w]
  refine rf_G.brn rfl (fun _ => ?_) (fun z => absurd (rf_k16 hi) ((rf_o_0 _).mp z))
  refine rf_G.step (pc' := 23) (st' := [_]) rfl rfl ?_
  refine rf_G.step (pc' := 24) (st' := [_, _]) rfl rfl ?_
  refine rf_G.v1I H rfl (by decide) rfl ⟨Nat.le_of_ble_eq_true rfl, rfl⟩ (Nat.le_of_ble_eq_true rfl) (rc_form r R k hk) (fun h H => ?_)
  refine rf_G.step (pc' := 28) (st' := [_, _]) rfl rfl ?_
  refine rf_G.bcn rfl (fun _ => ?_) (fun z => absurd z hf)
  have kl := rc_length r R k hk
  rw [if_neg hf, el] at kl
  refine rf_G.step (pc' := 34) (st' := [_]) rfl rfl ?_
  refine rf_G.step (pc' := 35) (st' := [_, _]) rfl rfl ?_
  refine rf_G.step (pc' := 36) (st' := [_, _, _]) rfl rfl ?_
  refine rf_G.v1I H rfl (by decide) rfl ⟨Nat.le_of_ble_eq_true rfl, rfl⟩ (Nat.le_of_ble_eq_true rfl) (kl) (fun h H => ?_)
  refine rf_G.bc rfl (jx_br_lt _ _) (fun z => absurd z (nI_nlt hil (by omega))) (fun _ => ?_)
  refine rf_G.step (pc' := 43) (st' := [_]) rfl rfl ?_
  exact rf_G.ret H rfl rfl
theorem rc_cell (r : Nat) (R : rf_R) (B D : Nat) (hB : B < 201) (hD : D ≤ 200) (e2 : R.2.2.1 2 = nI B) (e3 : R.2.2.1 3 = nI D) (k i l : Nat) (hk : k < 8) (hi : i < 16) (v : Int32) (hf : ¬ R.1 0 (290 + 18 * k) = -1) (hl : l ≤ 16) (el : R.1 0 (290 + 18 * k + 1) = nI l) (hil : i < l) : rf_C 138 r [.ref r, .int (nI k), .int (nI i), .int v] R (some (.int 0)) (rf_acts (rf_sA R 0 (upd (R.1 0) (290 + 18 * k + 2 + i) (rf_nar (R.1 0 (290 + 18 * k)) v))) B D) := by
  have tail : ∀ h, rf_At r R h → rf_G r 138 88 [.ref r, .int (nI k), .int (nI i), .int v] [.int (rf_nar (R.1 0 (290 + 18 * k)) v), .int (nI (290 + 18 * k + 2 + i)), .ref (r + 1)] h (some (.int 0)) (rf_acts (rf_sA R 0 (upd (R.1 0) (290 + 18 * k + 2 + i) (rf_nar (R.1 0 (290 + 18 * k)) v))) B D) := by
    intro h H
    refine rf_G.iast H 0 1 822 (by decide) rfl (rf_ix (by omega) (by decide)) (fun h H => ?_)
    rw [nI_clamp (by omega)] at H
    refine rf_G.step (pc' := 90) (st' := [_]) rfl rfl ?_
    refine rf_G.v0I H rfl (by decide) rfl ⟨Nat.le_of_ble_eq_true rfl, rfl⟩ (Nat.le_of_ble_eq_true rfl) (rc_acts r (rf_sA R 0 (upd (R.1 0) (290 + 18 * k + 2 + i) (rf_nar (R.1 0 (290 + 18 * k)) v))) B D hB hD e2 e3) (fun h H => ?_)
    exact rf_G.ret H rfl rfl
  intro h H
  show rf_G r 138 0 [.ref r, .int (nI k), .int (nI i), .int v] [] h _ _
  refine rf_G.step (pc' := 1) (st' := [_]) rfl rfl ?_
  refine rf_G.step (pc' := 2) (st' := [_, _]) rfl rfl ?_
  refine rf_G.v1I H rfl (by decide) rfl ⟨Nat.le_of_ble_eq_true rfl, rfl⟩ (Nat.le_of_ble_eq_true rfl) (rc_isSheetI r R (nI k)) (fun h H => ?_)
  refine rf_G.br rfl (jx_br_eq _ _) (fun z => absurd (rf_k8 hk) ((rf_o_0 _).mp z)) (fun _ => ?_)
  refine rf_G.step (pc' := 9) (st' := [_]) rfl rfl ?_
  refine rf_G.step (pc' := 10) (st' := [_]) rfl rfl ?_
  refine rf_G.step (pc' := 11) (st' := [_, _]) rfl rfl ?_
  refine rf_G.step (pc' := 14) (st' := [_, _, _]) rfl rfl ?_
  refine rf_G.s3 rfl (by decide) rfl (Nat.le_of_ble_eq_true rfl) (Nat.le_of_ble_eq_true rfl) (fun h => rc_inI _ _ _ h) ?_
  rw [rf_w]
  refine rf_G.brn rfl (fun _ => ?_) (fun z => absurd (rf_k16 hi) ((rf_o_0 _).mp z))
  refine rf_G.step (pc' := 23) (st' := [_]) rfl rfl ?_
  refine rf_G.step (pc' := 24) (st' := [_, _]) rfl rfl ?_
  refine rf_G.v1I H rfl (by decide) rfl ⟨Nat.le_of_ble_eq_true rfl, rfl⟩ (Nat.le_of_ble_eq_true rfl) (rc_form r R k hk) (fun h H => ?_)
  refine rf_G.step (pc' := 28) (st' := [_, _]) rfl rfl ?_
  refine rf_G.bcn rfl (fun _ => ?_) (fun z => absurd z hf)
  have kl := rc_length r R k hk
  rw [if_neg hf, el] at kl
  refine rf_G.step (pc' := 34) (st' := [_]) rfl rfl ?_
  refine rf_G.step (pc' := 35) (st' := [_, _]) rfl rfl ?_
  refine rf_G.step (pc' := 36) (st' := [_, _, _]) rfl rfl ?_
  refine rf_G.v1I H rfl (by decide) rfl ⟨Nat.le_of_ble_eq_true rfl, rfl⟩ (Nat.le_of_ble_eq_true rfl) (kl) (fun h H => ?_)
  refine rf_G.bc rfl (jx_br_lt _ _) (fun _ => ?_) (fun z => absurd (nI_lt hil (by omega)) z)
  refine rf_G.step (pc' := 45) (st' := [_]) rfl rfl ?_
  refine rf_G.get H rfl rfl ?_
  refine rf_G.step (pc' := 51) (st' := [_, _]) rfl rfl ?_
  refine rf_G.step (pc' := 53) (st' := [_, _, _]) rfl rfl ?_
  refine rf_G.step (pc' := 54) (st' := [_, _, _, _]) rfl rfl ?_
  refine rf_G.step (pc' := 55) (st' := [_, _, _]) rfl rfl ?_
  refine rf_G.step (pc' := 56) (st' := [_, _]) rfl rfl ?_
  refine rf_G.step (pc' := 57) (st' := [_, _, _]) rfl rfl ?_
  refine rf_G.step (pc' := 58) (st' := [_, _]) rfl rfl ?_
  refine rf_G.step (pc' := 59) (st' := [_, _, _]) rfl rfl ?_
  refine rf_G.step (pc' := 60) (st' := [_, _]) rfl rfl ?_
  rw [show (290 : Int32) + 18 * nI k + 2 + nI i = nI (290 + 18 * k + 2 + i) by rw [rf_lit 290, rf_lit 18, rf_lit 2, pk_mul, nI_add, nI_add, nI_add]]
  refine rf_G.step (pc' := 61) (st' := [_, _, _]) rfl rfl ?_
  refine rf_G.step (pc' := 62) (st' := [_, _, _, _]) rfl rfl ?_
  refine rf_G.v1I H rfl (by decide) rfl ⟨Nat.le_of_ble_eq_true rfl, rfl⟩ (Nat.le_of_ble_eq_true rfl) (rc_form r R k hk) (fun h H => ?_)
  refine rf_G.brn rfl (fun z => ?_) (fun z => ?_)
  · refine rf_G.step (pc' := 74) (st' := [_, _, _]) rfl rfl ?_
    refine rf_G.step (pc' := 75) (st' := [_, _, _, _]) rfl rfl ?_
    refine rf_G.v1I H rfl (by decide) rfl ⟨Nat.le_of_ble_eq_true rfl, rfl⟩ (Nat.le_of_ble_eq_true rfl) (rc_form r R k hk) (fun h H => ?_)
    refine rf_G.step (pc' := 79) (st' := [_, _, _, _]) rfl rfl ?_
    refine rf_G.bcn rfl (fun y => ?_) (fun y => ?_)
    · refine rf_G.step (pc' := 88) (st' := [_, _, _]) rfl rfl ?_
      have t := tail h H
      rw [show rf_nar (R.1 0 (290 + 18 * k)) v = v by unfold rf_nar; rw [if_neg z, if_neg y]] at t ⊢
      exact t
    · refine rf_G.step (pc' := 83) (st' := [_, _, _]) rfl rfl ?_
      refine rf_G.step (pc' := 84) (st' := [_, _, _]) rfl rfl ?_
      refine rf_G.step (pc' := 88) (st' := [_, _, _]) rfl rfl ?_
      have t := tail h H
      rw [show rf_nar (R.1 0 (290 + 18 * k)) v = v.toInt16.toInt32 by unfold rf_nar; rw [if_neg z, if_pos y]] at t ⊢
      exact t
  · refine rf_G.step (pc' := 69) (st' := [_, _, _]) rfl rfl ?_
    refine rf_G.step (pc' := 70) (st' := [_, _, _]) rfl rfl ?_
    refine rf_G.step (pc' := 88) (st' := [_, _, _]) rfl rfl ?_
    have t := tail h H
    rw [show rf_nar (R.1 0 (290 + 18 * k)) v = v.toInt8.toInt32 by unfold rf_nar; rw [if_pos z]] at t ⊢
    exact t
