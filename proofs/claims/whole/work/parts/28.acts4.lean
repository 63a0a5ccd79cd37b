/-! acts of the reference: forbid, meet, cell; number -/
theorem rf_inM {k M : Nat} (hk : k < M) (hM : M ≤ 12) : 0 ≤ (nI k).toInt ∧ (nI k).toInt < M := by rw [nI_toInt (by omega)]; omega
theorem rc_forbid_1 (r : Nat) (R : rf_R) (M : Nat) (hM : M ≤ 12) (eM : R.1 0 0 = nI M) (a c i : Int32) (hb : ¬ ((0 ≤ a.toInt ∧ a.toInt < M) ∧ (0 ≤ c.toInt ∧ c.toInt < M))) : rf_C 151 r [.ref r, .int a, .int c, .int i] R (some (.int 1)) R := by
  intro h H
  show rf_G r 151 0 [.ref r, .int a, .int c, .int i] [] h _ _
  refine rf_G.step (pc' := 1) (st' := [_]) rfl rfl ?_
  refine rf_G.step (pc' := 2) (st' := [_, _]) rfl rfl ?_
  refine rf_G.v1I H rfl (by decide) rfl ⟨Nat.le_of_ble_eq_true rfl, rfl⟩ (Nat.le_of_ble_eq_true rfl) (rc_isStream r R M hM eM a) (fun h H => ?_)
  refine rf_G.br rfl (jx_br_eq _ _) (fun _ => ?_) (fun z => ?_)
  · refine rf_G.step (pc' := 17) (st' := [_]) rfl rfl ?_
    exact rf_G.ret H rfl rfl
  · have z1 := Decidable.not_not.mp (fun y => z ((rf_o_0 _).mpr y))
    refine rf_G.step (pc' := 9) (st' := [_]) rfl rfl ?_
    refine rf_G.step (pc' := 10) (st' := [_, _]) rfl rfl ?_
    refine rf_G.v1I H rfl (by decide) rfl ⟨Nat.le_of_ble_eq_true rfl, rfl⟩ (Nat.le_of_ble_eq_true rfl) (rc_isStream r R M hM eM c) (fun h H => ?_)
    refine rf_G.brn rfl (fun y => absurd ((rf_o_0 _).mpr (fun u => hb ⟨z1, u⟩)) y) (fun _ => ?_)
    refine rf_G.step (pc' := 17) (st' := [_]) rfl rfl ?_
    exact rf_G.ret H rfl rfl
theorem rc_forbid_6 (r : Nat) (R : rf_R) (M : Nat) (hM : M ≤ 12) (eM : R.1 0 0 = nI M) (a c : Nat) (ha : a < M) (hc : c < M) (i : Int32) (hb : R.1 0 (2 + 24 * a + 1) = 0 ∨ R.1 0 (2 + 24 * c + 1) = 1) : rf_C 151 r [.ref r, .int (nI a), .int (nI c), .int i] R (some (.int 6)) R := by
  intro h H
  show rf_G r 151 0 [.ref r, .int (nI a), .int (nI c), .int i] [] h _ _
  refine rf_G.step (pc' := 1) (st' := [_]) rfl rfl ?_
  refine rf_G.step (pc' := 2) (st' := [_, _]) rfl rfl ?_
  refine rf_G.v1I H rfl (by decide) rfl ⟨Nat.le_of_ble_eq_true rfl, rfl⟩ (Nat.le_of_ble_eq_true rfl) (rc_isStream r R M hM eM (nI a)) (fun h H => ?_)
  refine rf_G.br rfl (jx_br_eq _ _) (fun z => absurd (rf_inM ha hM) ((rf_o_0 _).mp z)) (fun _ => ?_)
  refine rf_G.step (pc' := 9) (st' := [_]) rfl rfl ?_
  refine rf_G.step (pc' := 10) (st' := [_, _]) rfl rfl ?_
  refine rf_G.v1I H rfl (by decide) rfl ⟨Nat.le_of_ble_eq_true rfl, rfl⟩ (Nat.le_of_ble_eq_true rfl) (rc_isStream r R M hM eM (nI c)) (fun h H => ?_)
  refine rf_G.brn rfl (fun _ => ?_) (fun z => absurd (rf_inM hc hM) ((rf_o_0 _).mp z))
  refine rf_G.step (pc' := 19) (st' := [_]) rfl rfl ?_
  refine rf_G.step (pc' := 20) (st' := [_, _]) rfl rfl ?_
  refine rf_G.step (pc' := 21) (st' := [_, _, _]) rfl rfl ?_
  refine rf_G.v2I H rfl (by decide) rfl ⟨Nat.le_of_ble_eq_true rfl, rfl⟩ (Nat.le_of_ble_eq_true rfl) (rc_of r R a 1 (by omega) (by decide)) (fun h H => ?_)
  refine rf_G.br rfl (jx_br_eq _ _) (fun _ => ?_) (fun z => ?_)
  · refine rf_G.step (pc' := 39) (st' := [_]) rfl rfl ?_
    exact rf_G.ret H rfl rfl
  · refine rf_G.step (pc' := 28) (st' := [_]) rfl rfl ?_
    refine rf_G.step (pc' := 29) (st' := [_, _]) rfl rfl ?_
    refine rf_G.step (pc' := 30) (st' := [_, _, _]) rfl rfl ?_
    refine rf_G.v2I H rfl (by decide) rfl ⟨Nat.le_of_ble_eq_true rfl, rfl⟩ (Nat.le_of_ble_eq_true rfl) (rc_of r R c 1 (by omega) (by decide)) (fun h H => ?_)
    refine rf_G.step (pc' := 34) (st' := [_, _]) rfl rfl ?_
    refine rf_G.bcn rfl (fun y => absurd (hb.resolve_left z) y) (fun _ => ?_)
    refine rf_G.step (pc' := 39) (st' := [_]) rfl rfl ?_
    exact rf_G.ret H rfl rfl
theorem rc_forbid (r : Nat) (R : rf_R) (B D : Nat) (hB : B < 201) (hD : D ≤ 200) (e2 : R.2.2.1 2 = nI B) (e3 : R.2.2.1 3 = nI D) (M : Nat) (hM : M ≤ 12) (eM : R.1 0 0 = nI M) (a c : Nat) (ha : a < M) (hc : c < M) (i : Int32) (h1 : ¬ R.1 0 (2 + 24 * a + 1) = 0) (h2 : ¬ R.1 0 (2 + 24 * c + 1) = 1) : rf_C 151 r [.ref r, .int (nI a), .int (nI c), .int i] R (some (.int 0)) (rf_acts (rf_sA R 0 (upd (R.1 0) (678 + 12 * a + c) (rf_o (¬ i = 0)))) B D) := by
  have tail : ∀ h, rf_At r (rf_sA R 0 (upd (R.1 0) (678 + 12 * a + c) (rf_o (¬ i = 0)))) h → rf_G r 151 64 [.ref r, .int (nI a), .int (nI c), .int i] [] h (some (.int 0)) (rf_acts (rf_sA R 0 (upd (R.1 0) (678 + 12 * a + c) (rf_o (¬ i = 0)))) B D) := by
    intro h H
    refine rf_G.step (pc' := 65) (st' := [_]) rfl rfl ?_
    refine rf_G.v0I H rfl (by decide) rfl ⟨Nat.le_of_ble_eq_true rfl, rfl⟩ (Nat.le_of_ble_eq_true rfl) (rc_acts r (rf_sA R 0 _) B D hB hD e2 e3) (fun h H => ?_)
    exact rf_G.ret H rfl rfl
  intro h H
  show rf_G r 151 0 [.ref r, .int (nI a), .int (nI c), .int i] [] h _ _
  refine rf_G.step (pc' := 1) (st' := [_]) rfl rfl ?_
  refine rf_G.step (pc' := 2) (st' := [_, _]) rfl rfl ?_
  refine rf_G.v1I H rfl (by decide) rfl ⟨Nat.le_of_ble_eq_true rfl, rfl⟩ (Nat.le_of_ble_eq_true rfl) (rc_isStream r R M hM eM (nI a)) (fun h H => ?_)
  refine rf_G.br rfl (jx_br_eq _ _) (fun z => absurd (rf_inM ha hM) ((rf_o_0 _).mp z)) (fun _ => ?_)
  refine rf_G.step (pc' := 9) (st' := [_]) rfl rfl ?_
  refine rf_G.step (pc' := 10) (st' := [_, _]) rfl rfl ?_
  refine rf_G.v1I H rfl (by decide) rfl ⟨Nat.le_of_ble_eq_true rfl, rfl⟩ (Nat.le_of_ble_eq_true rfl) (rc_isStream r R M hM eM (nI c)) (fun h H => ?_)
  refine rf_G.brn rfl (fun _ => ?_) (fun z => absurd (rf_inM hc hM) ((rf_o_0 _).mp z))
  refine rf_G.step (pc' := 19) (st' := [_]) rfl rfl ?_
  refine rf_G.step (pc' := 20) (st' := [_, _]) rfl rfl ?_
  refine rf_G.step (pc' := 21) (st' := [_, _, _]) rfl rfl ?_
  refine rf_G.v2I H rfl (by decide) rfl ⟨Nat.le_of_ble_eq_true rfl, rfl⟩ (Nat.le_of_ble_eq_true rfl) (rc_of r R a 1 (by omega) (by decide)) (fun h H => ?_)
  refine rf_G.br rfl (jx_br_eq _ _) (fun z => absurd z h1) (fun _ => ?_)
  refine rf_G.step (pc' := 28) (st' := [_]) rfl rfl ?_
  refine rf_G.step (pc' := 29) (st' := [_, _]) rfl rfl ?_
  refine rf_G.step (pc' := 30) (st' := [_, _, _]) rfl rfl ?_
  refine rf_G.v2I H rfl (by decide) rfl ⟨Nat.le_of_ble_eq_true rfl, rfl⟩ (Nat.le_of_ble_eq_true rfl) (rc_of r R c 1 (by omega) (by decide)) (fun h H => ?_)
  refine rf_G.step (pc' := 34) (st' := [_, _]) rfl rfl ?_
  refine rf_G.bcn rfl (fun _ => ?_) (fun z => absurd z h2)
  refine rf_G.step (pc' := 41) (st' := [_]) rfl rfl ?_
  refine rf_G.get H rfl rfl ?_
  refine rf_G.step (pc' := 47) (st' := [_, _]) rfl rfl ?_
  refine rf_G.step (pc' := 49) (st' := [_, _, _]) rfl rfl ?_
  refine rf_G.step (pc' := 50) (st' := [_, _, _, _]) rfl rfl ?_
  refine rf_G.step (pc' := 51) (st' := [_, _, _]) rfl rfl ?_
  refine rf_G.step (pc' := 52) (st' := [_, _]) rfl rfl ?_
  refine rf_G.step (pc' := 53) (st' := [_, _, _]) rfl rfl ?_
  refine rf_G.step (pc' := 54) (st' := [_, _]) rfl rfl ?_
  rw [show (678 : Int32) + 12 * nI a + nI c = nI (678 + 12 * a + c) by rw [rf_lit 678, rf_lit 12, pk_mul, nI_add, nI_add]]
  refine rf_G.step (pc' := 55) (st' := [_, _, _]) rfl rfl ?_
  refine rf_G.br rfl (jx_br_eq _ _) (fun z => ?_) (fun z => ?_)
  · refine rf_G.step (pc' := 63) (st' := [_, _, _]) rfl rfl ?_
    refine rf_G.iast H 0 1 822 (by decide) rfl (rf_ix (by omega) (by decide)) (fun h H => ?_)
    rw [nI_clamp (by omega)] at H
    exact tail h (by rw [rf_of (fun y => y z)]; exact H)
  · refine rf_G.step (pc' := 59) (st' := [_, _, _]) rfl rfl ?_
    refine rf_G.step (pc' := 63) (st' := [_, _, _]) rfl rfl ?_
    refine rf_G.iast H 0 1 822 (by decide) rfl (rf_ix (by omega) (by decide)) (fun h H => ?_)
    rw [nI_clamp (by omega)] at H
    exact tail h (by rw [rf_ot z]; exact H)
/-- number: the cell of a sheet that is there and long enough -/
theorem rc_number_bad (r : Nat) (R : rf_R) (k i : Int32) (hk : ¬ (0 ≤ k.toInt ∧ k.toInt ≤ 7)) : rf_C 143 r [.ref r, .int k, .int i] R (some (.int (-1))) R := by
  intro h H
  show rf_G r 143 0 [.ref r, .int k, .int i] [] h _ _
  refine rf_G.step (pc' := 1) (st' := [_]) rfl rfl ?_
  refine rf_G.step (pc' := 2) (st' := [_, _]) rfl rfl ?_
  refine rf_G.v1I H rfl (by decide) rfl ⟨Nat.le_of_ble_eq_true rfl, rfl⟩ (Nat.le_of_ble_eq_true rfl) (rc_isSheetI r R k) (fun h H => ?_)
  refine rf_G.br rfl (jx_br_eq _ _) (fun _ => ?_) (fun z => absurd ((rf_o_0 _).mpr hk) z)
  refine rf_G.step (pc' := 46) (st' := [_]) rfl rfl ?_
  exact rf_G.ret H rfl rfl
theorem rc_number (r : Nat) (R : rf_R) (k : Nat) (hk : k < 8) (i : Int32) (l : Nat) (hl : l ≤ 16) (el : (if R.1 0 (290 + 18 * k) = -1 then 0 else R.1 0 (290 + 18 * k + 1)) = nI l) : rf_C 143 r [.ref r, .int (nI k), .int i] R (some (.int (if 0 ≤ i.toInt ∧ i.toInt < l then R.1 0 (290 + 18 * k + 2 + i.toInt.toNat) else -1))) R := by
  intro h H
  show rf_G r 143 0 [.ref r, .int (nI k), .int i] [] h _ _
  refine rf_G.step (pc' := 1) (st' := [_]) rfl rfl ?_
  refine rf_G.step (pc' := 2) (st' := [_, _]) rfl rfl ?_
  refine rf_G.v1I H rfl (by decide) rfl ⟨Nat.le_of_ble_eq_true rfl, rfl⟩ (Nat.le_of_ble_eq_true rfl) (rc_isSheetI r R (nI k)) (fun h H => ?_)
  refine rf_G.br rfl (jx_br_eq _ _) (fun z => absurd (rf_k8 hk) ((rf_o_0 _).mp z)) (fun _ => ?_)
  have kl := rc_length r R k hk
  rw [el] at kl
  refine rf_G.step (pc' := 9) (st' := [_]) rfl rfl ?_
  refine rf_G.step (pc' := 10) (st' := [_]) rfl rfl ?_
  refine rf_G.step (pc' := 11) (st' := [_, _]) rfl rfl ?_
  refine rf_G.step (pc' := 12) (st' := [_, _, _]) rfl rfl ?_
  refine rf_G.step (pc' := 13) (st' := [_, _, _, _]) rfl rfl ?_
  refine rf_G.v1I H rfl (by decide) rfl ⟨Nat.le_of_ble_eq_true rfl, rfl⟩ (Nat.le_of_ble_eq_true rfl) (kl) (fun h H => ?_)
  refine rf_G.step (pc' := 17) (st' := [_, _, _, _]) rfl rfl ?_
  refine rf_G.step (pc' := 18) (st' := [_, _, _]) rfl rfl ?_
  refine rf_G.step (pc' := 19) (st' := [_, _, _]) rfl rfl ?_
  refine rf_G.s3 rfl (by decide) rfl (Nat.le_of_ble_eq_true rfl) (Nat.le_of_ble_eq_true rfl) (fun h => rc_inI _ _ _ h) ?_
  have e1 : (nI l - 1).toInt = (l : Int) - 1 := by
    have := pk_sub_toInt (a := l) (b := 1) (by omega) (by decide)
    show (nI l - nI 1).toInt = _
    rw [this]
    rfl
  rw [rf_w, rf_w, e1]
  refine rf_G.br rfl (jx_br_eq _ _) (fun z => ?_) (fun z => ?_)
  · have z1 : ¬ (0 ≤ i.toInt ∧ i.toInt < l) := fun y => (rf_o_0 _).mp z (show (0 : Int) ≤ i.toInt ∧ i.toInt ≤ (l : Int) - 1 by omega)
    rw [if_neg z1]
    refine rf_G.step (pc' := 46) (st' := [_]) rfl rfl ?_
    exact rf_G.ret H rfl rfl
  · have z2 : (0 : Int) ≤ i.toInt ∧ i.toInt ≤ (l : Int) - 1 := Decidable.not_not.mp (fun y => z ((rf_o_0 _).mpr y))
    rw [if_pos (show 0 ≤ i.toInt ∧ i.toInt < l by omega)]
    obtain ⟨j, hj, rfl⟩ := rf_nI (x := i) (n := l - 1) (by omega) (by omega)
    rw [nI_toInt (by omega)] at z2
    rw [nI_toInt (by omega), Int.toNat_natCast]
    refine rf_G.step (pc' := 26) (st' := [_]) rfl rfl ?_
    refine rf_G.get H rfl rfl ?_
    refine rf_G.step (pc' := 32) (st' := [_, _]) rfl rfl ?_
    refine rf_G.step (pc' := 34) (st' := [_, _, _]) rfl rfl ?_
    refine rf_G.step (pc' := 35) (st' := [_, _, _, _]) rfl rfl ?_
    refine rf_G.step (pc' := 36) (st' := [_, _, _]) rfl rfl ?_
    refine rf_G.step (pc' := 37) (st' := [_, _]) rfl rfl ?_
    refine rf_G.step (pc' := 38) (st' := [_, _, _]) rfl rfl ?_
    refine rf_G.step (pc' := 39) (st' := [_, _]) rfl rfl ?_
    refine rf_G.step (pc' := 40) (st' := [_, _, _]) rfl rfl ?_
    refine rf_G.step (pc' := 41) (st' := [_, _]) rfl rfl ?_
    rw [show (290 : Int32) + 18 * nI k + 2 + nI j = nI (290 + 18 * k + 2 + j) by rw [rf_lit 290, rf_lit 18, rf_lit 2, pk_mul, nI_add, nI_add, nI_add]]
    refine rf_G.iald H 0 1 822 (by decide) rfl (rf_ix (by omega) (by decide)) ?_
    refine rf_G.step (pc' := 46) (st' := [_]) rfl rfl ?_
    rw [nI_clamp (by omega)]
    exact rf_G.ret H rfl rfl
