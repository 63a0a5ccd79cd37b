/-! acts of the reference: meet, cell -/
theorem rc_meet_1 (r : Nat) (R : rf_R) (M : Nat) (hM : M ≤ 12) (eM : R.1 0 0 = nI M) (n a c q : Int32) (hb : ¬ ((0 ≤ n.toInt ∧ n.toInt ≤ 3) ∧ (0 ≤ a.toInt ∧ a.toInt < M) ∧ (0 ≤ c.toInt ∧ c.toInt < M))) : rf_C 177 r [.ref r, .int n, .int a, .int c, .int q] R (some (.int 1)) R := by
  intro h H
  show rf_G r 177 0 [.ref r, .int n, .int a, .int c, .int q, .retAddr 0] [] h _ _
  refine rf_G.step (pc' := 1) (st' := [_]) rfl rfl ?_
  refine rf_G.step (pc' := 2) (st' := [_, _]) rfl rfl ?_
  refine rf_G.v1I H rfl (by decide) rfl ⟨Nat.le_of_ble_eq_true rfl, rfl⟩ (Nat.le_of_ble_eq_true rfl) (rc_isNet r R n) (fun h H => ?_)
  refine rf_G.br rfl (jx_br_eq _ _) (fun _ => ?_) (fun z => ?_)
  · refine rf_G.step (pc' := 25) (st' := [_]) rfl rfl ?_
    exact rf_G.ret H rfl rfl
  · have z1 := Decidable.not_not.mp (fun y => z ((rf_o_0 _).mpr y))
    refine rf_G.step (pc' := 9) (st' := [_]) rfl rfl ?_
    refine rf_G.step (pc' := 10) (st' := [_, _]) rfl rfl ?_
    refine rf_G.v1I H rfl (by decide) rfl ⟨Nat.le_of_ble_eq_true rfl, rfl⟩ (Nat.le_of_ble_eq_true rfl) (rc_isStream r R M hM eM a) (fun h H => ?_)
    refine rf_G.br rfl (jx_br_eq _ _) (fun _ => ?_) (fun y => ?_)
    · refine rf_G.step (pc' := 25) (st' := [_]) rfl rfl ?_
      exact rf_G.ret H rfl rfl
    · have y1 := Decidable.not_not.mp (fun u => y ((rf_o_0 _).mpr u))
      refine rf_G.step (pc' := 17) (st' := [_]) rfl rfl ?_
      refine rf_G.step (pc' := 18) (st' := [_, _]) rfl rfl ?_
      refine rf_G.v1I H rfl (by decide) rfl ⟨Nat.le_of_ble_eq_true rfl, rfl⟩ (Nat.le_of_ble_eq_true rfl) (rc_isStream r R M hM eM c) (fun h H => ?_)
      refine rf_G.brn rfl (fun u => absurd ((rf_o_0 _).mpr (fun t => hb ⟨z1, y1, t⟩)) u) (fun _ => ?_)
      refine rf_G.step (pc' := 25) (st' := [_]) rfl rfl ?_
      exact rf_G.ret H rfl rfl
/-- behind the first three tests -/
theorem rc_meet_in {r : Nat} {R R2 : rf_R} {M : Nat} (hM : M ≤ 12) (eM : R.1 0 0 = nI M) {n a c : Nat} (hn : n < 4) (ha : a < M) (hc : c < M) {q : Int32} {w : Option Value} (k : ∀ h, rf_At r R h → rf_G r 177 33 [.ref r, .int (nI n), .int (nI a), .int (nI c), .int q, .retAddr 0] [.int 20, .int (R.1 0 (434 + 61 * n))] h w R2) : rf_C 177 r [.ref r, .int (nI n), .int (nI a), .int (nI c), .int q] R w R2 := by
  intro h H
  show rf_G r 177 0 [.ref r, .int (nI n), .int (nI a), .int (nI c), .int q, .retAddr 0] [] h _ _
  refine rf_G.step (pc' := 1) (st' := [_]) rfl rfl ?_
  refine rf_G.step (pc' := 2) (st' := [_, _]) rfl rfl ?_
  refine rf_G.v1I H rfl (by decide) rfl ⟨Nat.le_of_ble_eq_true rfl, rfl⟩ (Nat.le_of_ble_eq_true rfl) (rc_isNet r R (nI n)) (fun h H => ?_)
  refine rf_G.br rfl (jx_br_eq _ _) (fun z => absurd (rf_k4 hn) ((rf_o_0 _).mp z)) (fun _ => ?_)
  refine rf_G.step (pc' := 9) (st' := [_]) rfl rfl ?_
  refine rf_G.step (pc' := 10) (st' := [_, _]) rfl rfl ?_
  refine rf_G.v1I H rfl (by decide) rfl ⟨Nat.le_of_ble_eq_true rfl, rfl⟩ (Nat.le_of_ble_eq_true rfl) (rc_isStream r R M hM eM (nI a)) (fun h H => ?_)
  refine rf_G.br rfl (jx_br_eq _ _) (fun z => absurd (rf_inM ha hM) ((rf_o_0 _).mp z)) (fun _ => ?_)
  refine rf_G.step (pc' := 17) (st' := [_]) rfl rfl ?_
  refine rf_G.step (pc' := 18) (st' := [_, _]) rfl rfl ?_
  refine rf_G.v1I H rfl (by decide) rfl ⟨Nat.le_of_ble_eq_true rfl, rfl⟩ (Nat.le_of_ble_eq_true rfl) (rc_isStream r R M hM eM (nI c)) (fun h H => ?_)
  refine rf_G.brn rfl (fun _ => ?_) (fun z => absurd (rf_inM hc hM) ((rf_o_0 _).mp z))
  refine rf_G.step (pc' := 27) (st' := [_]) rfl rfl ?_
  refine rf_G.step (pc' := 28) (st' := [_, _]) rfl rfl ?_
  refine rf_G.v1I H rfl (by decide) rfl ⟨Nat.le_of_ble_eq_true rfl, rfl⟩ (Nat.le_of_ble_eq_true rfl) (rc_meetings r R n hn) (fun h H => ?_)
  refine rf_G.step (pc' := 33) (st' := [_, _]) rfl rfl ?_
  exact k h H
theorem rc_meet_2 (r : Nat) (R : rf_R) (M : Nat) (hM : M ≤ 12) (eM : R.1 0 0 = nI M) (n a c : Nat) (hn : n < 4) (ha : a < M) (hc : c < M) (q : Int32) (e : R.1 0 (434 + 61 * n) = nI 20) : rf_C 177 r [.ref r, .int (nI n), .int (nI a), .int (nI c), .int q] R (some (.int 2)) R := by
  refine rc_meet_in hM eM hn ha hc (fun h H => ?_)
  rw [e]
  refine rf_G.bcn rfl (fun z => absurd rfl z) (fun _ => ?_)
  refine rf_G.step (pc' := 37) (st' := [_]) rfl rfl ?_
  exact rf_G.ret H rfl rfl
theorem rf_n20 {t : Nat} (ht : t < 20) : ¬ nI t = 20 := fun q => by
  have := (nI_eq (a := t) (b := 20) (by omega) (by decide)).mp q
  omega
theorem rc_meet_3 (r : Nat) (R : rf_R) (M : Nat) (hM : M ≤ 12) (eM : R.1 0 0 = nI M) (n a c t : Nat) (hn : n < 4) (ha : a < M) (hc : c < M) (q : Int32) (ht : t < 20) (e : R.1 0 (434 + 61 * n) = nI t) (hq : ¬ (1 ≤ q.toInt ∧ q.toInt ≤ 100000000)) : rf_C 177 r [.ref r, .int (nI n), .int (nI a), .int (nI c), .int q] R (some (.int 3)) R := by
  refine rc_meet_in hM eM hn ha hc (fun h H => ?_)
  rw [e]
  refine rf_G.bcn rfl (fun _ => ?_) (fun z => absurd z (rf_n20 ht))
  refine rf_G.step (pc' := 40) (st' := [_]) rfl rfl ?_
  refine rf_G.step (pc' := 41) (st' := [_]) rfl rfl ?_
  refine rf_G.step (pc' := 42) (st' := [_, _]) rfl rfl ?_
  refine rf_G.step (pc' := 45) (st' := [_, _, _]) rfl rfl ?_
  refine rf_G.s3 rfl (by decide) rfl (Nat.le_of_ble_eq_true rfl) (Nat.le_of_ble_eq_true rfl) (fun h => rc_inI _ _ _ h) ?_
  rw [rf_w]
  refine rf_G.brn rfl (fun z => absurd ((rf_o_0 _).mpr hq) z) (fun _ => ?_)
  refine rf_G.step (pc' := 52) (st' := [_]) rfl rfl ?_
  exact rf_G.ret H rfl rfl
theorem rc_meet_6 (r : Nat) (R : rf_R) (M : Nat) (hM : M ≤ 12) (eM : R.1 0 0 = nI M) (n a c t : Nat) (hn : n < 4) (ha : a < M) (hc : c < M) (q : Int32) (ht : t < 20) (e : R.1 0 (434 + 61 * n) = nI t) (hq : 1 ≤ q.toInt ∧ q.toInt ≤ 100000000) (hb : ¬ (R.1 0 (2 + 24 * a) < 3 ∧ R.1 0 (2 + 24 * c) < 3 ∧ ¬ R.1 0 (2 + 24 * a + 1) = 0 ∧ ¬ R.1 0 (2 + 24 * c + 1) = 1)) : rf_C 177 r [.ref r, .int (nI n), .int (nI a), .int (nI c), .int q] R (some (.int 6)) R := by
  refine rc_meet_in hM eM hn ha hc (fun h H => ?_)
  rw [e]
  refine rf_G.bcn rfl (fun _ => ?_) (fun z => absurd z (rf_n20 ht))
  refine rf_G.step (pc' := 40) (st' := [_]) rfl rfl ?_
  refine rf_G.step (pc' := 41) (st' := [_]) rfl rfl ?_
  refine rf_G.step (pc' := 42) (st' := [_, _]) rfl rfl ?_
  refine rf_G.step (pc' := 45) (st' := [_, _, _]) rfl rfl ?_
  refine rf_G.s3 rfl (by decide) rfl (Nat.le_of_ble_eq_true rfl) (Nat.le_of_ble_eq_true rfl) (fun h => rc_inI _ _ _ h) ?_
  rw [rf_w]
  refine rf_G.brn rfl (fun _ => ?_) (fun z => absurd hq ((rf_o_0 _).mp z))
  refine rf_G.step (pc' := 54) (st' := [_]) rfl rfl ?_
  refine rf_G.step (pc' := 55) (st' := [_, _]) rfl rfl ?_
  refine rf_G.step (pc' := 56) (st' := [_, _, _]) rfl rfl ?_
  refine rf_G.v2I H rfl (by decide) rfl ⟨Nat.le_of_ble_eq_true rfl, rfl⟩ (Nat.le_of_ble_eq_true rfl) (rc_of r R a 0 (by omega) (by decide)) (fun h H => ?_)
  refine rf_G.step (pc' := 60) (st' := [_, _]) rfl rfl ?_
  refine rf_G.bc rfl (jx_br_ge _ _) (fun _ => ?_) (fun z1 => ?_)
  · refine rf_G.step (pc' := 94) (st' := [_]) rfl rfl ?_
    exact rf_G.ret H rfl rfl
  · refine rf_G.step (pc' := 64) (st' := [_]) rfl rfl ?_
    refine rf_G.step (pc' := 65) (st' := [_, _]) rfl rfl ?_
    refine rf_G.step (pc' := 66) (st' := [_, _, _]) rfl rfl ?_
    refine rf_G.v2I H rfl (by decide) rfl ⟨Nat.le_of_ble_eq_true rfl, rfl⟩ (Nat.le_of_ble_eq_true rfl) (rc_of r R c 0 (by omega) (by decide)) (fun h H => ?_)
    refine rf_G.step (pc' := 70) (st' := [_, _]) rfl rfl ?_
    refine rf_G.bc rfl (jx_br_ge _ _) (fun _ => ?_) (fun z2 => ?_)
    · refine rf_G.step (pc' := 94) (st' := [_]) rfl rfl ?_
      exact rf_G.ret H rfl rfl
    · refine rf_G.step (pc' := 74) (st' := [_]) rfl rfl ?_
      refine rf_G.step (pc' := 75) (st' := [_, _]) rfl rfl ?_
      refine rf_G.step (pc' := 76) (st' := [_, _, _]) rfl rfl ?_
      refine rf_G.v2I H rfl (by decide) rfl ⟨Nat.le_of_ble_eq_true rfl, rfl⟩ (Nat.le_of_ble_eq_true rfl) (rc_of r R a 1 (by omega) (by decide)) (fun h H => ?_)
      refine rf_G.br rfl (jx_br_eq _ _) (fun _ => ?_) (fun z3 => ?_)
      · refine rf_G.step (pc' := 94) (st' := [_]) rfl rfl ?_
        exact rf_G.ret H rfl rfl
      · refine rf_G.step (pc' := 83) (st' := [_]) rfl rfl ?_
        refine rf_G.step (pc' := 84) (st' := [_, _]) rfl rfl ?_
        refine rf_G.step (pc' := 85) (st' := [_, _, _]) rfl rfl ?_
        refine rf_G.v2I H rfl (by decide) rfl ⟨Nat.le_of_ble_eq_true rfl, rfl⟩ (Nat.le_of_ble_eq_true rfl) (rc_of r R c 1 (by omega) (by decide)) (fun h H => ?_)
        refine rf_G.step (pc' := 89) (st' := [_, _]) rfl rfl ?_
        refine rf_G.bcn rfl (fun z4 => absurd ⟨Int32.not_le.mp z1, Int32.not_le.mp z2, z3, z4⟩ hb) (fun _ => ?_)
        refine rf_G.step (pc' := 94) (st' := [_]) rfl rfl ?_
        exact rf_G.ret H rfl rfl
def rf_meN (N : Nat → Int32) (n t : Nat) (a c q : Int32) : Nat → Int32 := upd (upd (upd (upd N (434 + 61 * n + 1 + 3 * t) a) (434 + 61 * n + 1 + 3 * t + 1) c) (434 + 61 * n + 1 + 3 * t + 2) q) (434 + 61 * n) (nI (t + 1))
theorem rc_meet (r : Nat) (R : rf_R) (B D : Nat) (hB : B < 201) (hD : D ≤ 200) (e2 : R.2.2.1 2 = nI B) (e3 : R.2.2.1 3 = nI D) (M : Nat) (hM : M ≤ 12) (eM : R.1 0 0 = nI M) (n a c t : Nat) (hn : n < 4) (ha : a < M) (hc : c < M) (q : Int32) (ht : t < 20) (e : R.1 0 (434 + 61 * n) = nI t) (hq : 1 ≤ q.toInt ∧ q.toInt ≤ 100000000) (h1 : R.1 0 (2 + 24 * a) < 3) (h2 : R.1 0 (2 + 24 * c) < 3) (h3 : ¬ R.1 0 (2 + 24 * a + 1) = 0) (h4 : ¬ R.1 0 (2 + 24 * c + 1) = 1) : rf_C 177 r [.ref r, .int (nI n), .int (nI a), .int (nI c), .int q] R (some (.int 0)) (rf_acts (rf_sA R 0 (rf_meN (R.1 0) n t (nI a) (nI c) q)) B D) := by
  refine rc_meet_in hM eM hn ha hc (fun h H => ?_)
  rw [e]
  refine rf_G.bcn rfl (fun _ => ?_) (fun z => absurd z (rf_n20 ht))
  refine rf_G.step (pc' := 40) (st' := [_]) rfl rfl ?_
  refine rf_G.step (pc' := 41) (st' := [_]) rfl rfl ?_
  refine rf_G.step (pc' := 42) (st' := [_, _]) rfl rfl ?_
  refine rf_G.step (pc' := 45) (st' := [_, _, _]) rfl rfl ?_
  refine rf_G.s3 rfl (by decide) rfl (Nat.le_of_ble_eq_true rfl) (Nat.le_of_ble_eq_true rfl) (fun h => rc_inI _ _ _ h) ?_
  rw [rf_w]
  refine rf_G.brn rfl (fun _ => ?_) (fun z => absurd hq ((rf_o_0 _).mp z))
  refine rf_G.step (pc' := 54) (st' := [_]) rfl rfl ?_
  refine rf_G.step (pc' := 55) (st' := [_, _]) rfl rfl ?_
  refine rf_G.step (pc' := 56) (st' := [_, _, _]) rfl rfl ?_
  refine rf_G.v2I H rfl (by decide) rfl ⟨Nat.le_of_ble_eq_true rfl, rfl⟩ (Nat.le_of_ble_eq_true rfl) (rc_of r R a 0 (by omega) (by decide)) (fun h H => ?_)
  refine rf_G.step (pc' := 60) (st' := [_, _]) rfl rfl ?_
  refine rf_G.bc rfl (jx_br_ge _ _) (fun z => absurd h1 (Int32.not_lt.mpr z)) (fun _ => ?_)
  refine rf_G.step (pc' := 64) (st' := [_]) rfl rfl ?_
  refine rf_G.step (pc' := 65) (st' := [_, _]) rfl rfl ?_
  refine rf_G.step (pc' := 66) (st' := [_, _, _]) rfl rfl ?_
  refine rf_G.v2I H rfl (by decide) rfl ⟨Nat.le_of_ble_eq_true rfl, rfl⟩ (Nat.le_of_ble_eq_true rfl) (rc_of r R c 0 (by omega) (by decide)) (fun h H => ?_)
  refine rf_G.step (pc' := 70) (st' := [_, _]) rfl rfl ?_
  refine rf_G.bc rfl (jx_br_ge _ _) (fun z => absurd h2 (Int32.not_lt.mpr z)) (fun _ => ?_)
  refine rf_G.step (pc' := 74) (st' := [_]) rfl rfl ?_
  refine rf_G.step (pc' := 75) (st' := [_, _]) rfl rfl ?_
  refine rf_G.step (pc' := 76) (st' := [_, _, _]) rfl rfl ?_
  refine rf_G.v2I H rfl (by decide) rfl ⟨Nat.le_of_ble_eq_true rfl, rfl⟩ (Nat.le_of_ble_eq_true rfl) (rc_of r R a 1 (by omega) (by decide)) (fun h H => ?_)
  refine rf_G.br rfl (jx_br_eq _ _) (fun z => absurd z h3) (fun _ => ?_)
  refine rf_G.step (pc' := 83) (st' := [_]) rfl rfl ?_
  refine rf_G.step (pc' := 84) (st' := [_, _]) rfl rfl ?_
  refine rf_G.step (pc' := 85) (st' := [_, _, _]) rfl rfl ?_
  refine rf_G.v2I H rfl (by decide) rfl ⟨Nat.le_of_ble_eq_true rfl, rfl⟩ (Nat.le_of_ble_eq_true rfl) (rc_of r R c 1 (by omega) (by decide)) (fun h H => ?_)
  refine rf_G.step (pc' := 89) (st' := [_, _]) rfl rfl ?_
  refine rf_G.bcn rfl (fun _ => ?_) (fun z => absurd z h4)
  refine rf_G.step (pc' := 98) (st' := [_]) rfl rfl ?_
  refine rf_G.step (pc' := 100) (st' := [_, _]) rfl rfl ?_
  refine rf_G.step (pc' := 101) (st' := [_, _, _]) rfl rfl ?_
  refine rf_G.step (pc' := 102) (st' := [_, _]) rfl rfl ?_
  refine rf_G.step (pc' := 103) (st' := [_]) rfl rfl ?_
  refine rf_G.step (pc' := 104) (st' := [_, _]) rfl rfl ?_
  refine rf_G.step (pc' := 105) (st' := [_]) rfl rfl ?_
  refine rf_G.step (pc' := 106) (st' := [_, _]) rfl rfl ?_
  refine rf_G.step (pc' := 107) (st' := [_, _, _]) rfl rfl ?_
  refine rf_G.step (pc' := 108) (st' := [_, _, _, _]) rfl rfl ?_
  refine rf_G.v1I H rfl (by decide) rfl ⟨Nat.le_of_ble_eq_true rfl, rfl⟩ (Nat.le_of_ble_eq_true rfl) (rc_meetings r R n hn) (fun h H => ?_)
  rw [e]
  refine rf_G.step (pc' := 112) (st' := [_, _]) rfl rfl ?_
  refine rf_G.step (pc' := 113) (st' := [_]) rfl rfl ?_
  rw [show (434 : Int32) + 61 * nI n + 1 + 3 * nI t = nI (434 + 61 * n + 1 + 3 * t) by rw [rf_lit 434, rf_lit 61, rf_lit 1, rf_lit 3, pk_mul, pk_mul, nI_add, nI_add, nI_add]]
  refine rf_G.step (pc' := 115) (ls' := [_, _, _, _, _, _]) (st' := []) rfl rfl ?_
  refine rf_G.step (pc' := 116) (st' := [_]) rfl rfl ?_
  refine rf_G.get H rfl rfl ?_
  refine rf_G.step (pc' := 121) (st' := [_, _]) rfl rfl ?_
  refine rf_G.step (pc' := 122) (st' := [_, _, _]) rfl rfl ?_
  refine rf_G.iast H 0 1 822 (by decide) rfl (rf_ix (by omega) (by decide)) (fun h H => ?_)
  rw [nI_clamp (by omega)] at H
  refine rf_G.step (pc' := 124) (st' := [_]) rfl rfl ?_
  refine rf_G.get H rfl rfl ?_
  refine rf_G.step (pc' := 129) (st' := [_, _]) rfl rfl ?_
  refine rf_G.step (pc' := 130) (st' := [_, _, _]) rfl rfl ?_
  refine rf_G.step (pc' := 131) (st' := [_, _]) rfl rfl ?_
  rw [nI_1]
  refine rf_G.step (pc' := 132) (st' := [_, _, _]) rfl rfl ?_
  refine rf_G.iast H 0 1 822 (by decide) rfl (rf_ix (by omega) (by decide)) (fun h H => ?_)
  rw [nI_clamp (by omega), rf_sA_sA, rf_sA_at] at H
  refine rf_G.step (pc' := 134) (st' := [_]) rfl rfl ?_
  refine rf_G.get H rfl rfl ?_
  refine rf_G.step (pc' := 139) (st' := [_, _]) rfl rfl ?_
  refine rf_G.step (pc' := 140) (st' := [_, _, _]) rfl rfl ?_
  refine rf_G.step (pc' := 141) (st' := [_, _]) rfl rfl ?_
  rw [show nI (434 + 61 * n + 1 + 3 * t) + 2 = nI (434 + 61 * n + 1 + 3 * t + 2) by rw [rf_lit 2, nI_add]]
  refine rf_G.step (pc' := 143) (st' := [_, _, _]) rfl rfl ?_
  refine rf_G.iast H 0 1 822 (by decide) rfl (rf_ix (by omega) (by decide)) (fun h H => ?_)
  rw [nI_clamp (by omega), rf_sA_sA, rf_sA_at] at H
  refine rf_G.step (pc' := 145) (st' := [_]) rfl rfl ?_
  refine rf_G.get H rfl rfl ?_
  refine rf_G.step (pc' := 151) (st' := [_, _]) rfl rfl ?_
  refine rf_G.step (pc' := 153) (st' := [_, _, _]) rfl rfl ?_
  refine rf_G.step (pc' := 154) (st' := [_, _, _, _]) rfl rfl ?_
  refine rf_G.step (pc' := 155) (st' := [_, _, _]) rfl rfl ?_
  refine rf_G.step (pc' := 156) (st' := [_, _]) rfl rfl ?_
  rw [show (434 : Int32) + 61 * nI n = nI (434 + 61 * n) by rw [rf_lit 434, rf_lit 61, pk_mul, nI_add]]
  refine rf_G.step (pc' := 157) (st' := [_, _, _, _]) rfl rfl ?_
  refine rf_G.iald H 0 1 822 (by decide) rfl (rf_ix (by omega) (by decide)) ?_
  rw [nI_clamp (by omega), rf_sA_at, rf_up_ne (by omega), rf_up_ne (by omega), rf_up_ne (by omega), e]
  refine rf_G.step (pc' := 159) (st' := [_, _, _, _]) rfl rfl ?_
  refine rf_G.step (pc' := 160) (st' := [_, _, _]) rfl rfl ?_
  rw [nI_1]
  refine rf_G.iast H 0 1 822 (by decide) rfl (rf_ix (by omega) (by decide)) (fun h H => ?_)
  rw [nI_clamp (by omega), rf_sA_sA, rf_sA_at] at H
  refine rf_G.step (pc' := 162) (st' := [_]) rfl rfl ?_
  refine rf_G.v0I H rfl (by decide) rfl ⟨Nat.le_of_ble_eq_true rfl, rfl⟩ (Nat.le_of_ble_eq_true rfl) (rc_acts r (rf_sA R 0 (rf_meN (R.1 0) n t (nI a) (nI c) q)) B D hB hD e2 e3) (fun h H => ?_)
  exact rf_G.ret H rfl rfl
