/-! the reference's least heat, and what asks for it -/
def rf_Pre (R : rf_R) (M E : Nat) : Prop := M ≤ 12 ∧ E ≤ 2 ∧ R.1 0 0 = nI M ∧ R.2.2.1 6 = nI E ∧ rf_ok (R.1 0) M
section RFP
variable {R : rf_R} {M E : Nat}
theorem rf_Pre.hM (P : rf_Pre R M E) : M ≤ 12 := P.1
theorem rf_Pre.hE (P : rf_Pre R M E) : E ≤ 2 := P.2.1
theorem rf_Pre.eM (P : rf_Pre R M E) : R.1 0 0 = nI M := P.2.2.1
theorem rf_Pre.eE (P : rf_Pre R M E) : R.2.2.1 6 = nI E := P.2.2.2.1
theorem rf_Pre.ok (P : rf_Pre R M E) : rf_ok (R.1 0) M := P.2.2.2.2
end RFP
theorem rf_las_ok {R : rf_R} {M E : Nat} (P : rf_Pre R M E) (w : Int32) : rf_kp R (rf_las R w M E).1 ∧ (rf_las R w M E).1.2.2.1 10 = nI (rf_las R w M E).2 ∧ (rf_las R w M E).2 ≤ 9 * M + E := by
  obtain ⟨a1, a2, a3⟩ := rf_ly_ok R w M (fun t ht => (P.ok t ht).1)
  obtain ⟨b1, b2, b3⟩ := rf_ex_ok (rf_ly R w M) (R.1 7) a2 E
  exact ⟨a1.tr b1, b2, Nat.le_trans b3 (by omega)⟩
theorem rf_las_n {R : rf_R} {M E : Nat} (P : rf_Pre R M E) (w : Int32) : (rf_las R w M E).2 ≤ 110 := by
  have := (rf_las_ok P w).2.2
  have := P.hM
  have := P.hE
  omega
theorem rf_las_pre {R : rf_R} {M E : Nat} (P : rf_Pre R M E) (w : Int32) : rf_Pre (rf_las R w M E).1 M E := by
  have k := (rf_las_ok P w).1
  have k0 : (rf_las R w M E).1.1 0 = R.1 0 := k.1 0 (by decide)
  exact ⟨P.hM, P.hE, by rw [k0]; exact P.eM, by rw [k.2.2.1 6 (by decide)]; exact P.eE, by rw [k0]; exact P.ok⟩
def rf_hn (R : rf_R) (w : Int32) (M E : Nat) : Nat := (rf_las R w M E).2
def rf_hq (R : rf_R) (w : Int32) (M E : Nat) : Int64 × Int64 × (Nat → Int64) × (Nat → Int64) := rf_lh (rf_las R w M E).1 w M E (rf_hn R w M E)
def rf_hv (R : rf_R) (w : Int32) (M E : Nat) : Int64 := -(rf_hq R w M E).2.1
def rf_hR (R : rf_R) (w : Int32) (M E : Nat) : rf_R := rf_lhR (rf_las R w M E).1 w M E (rf_hn R w M E)
theorem rf_hR_kp {R : rf_R} {M E : Nat} (P : rf_Pre R M E) (w : Int32) : (∀ k, k ≠ 9 → (rf_hR R w M E).1 k = R.1 k) ∧ (rf_hR R w M E).1 9 = (rf_las R w M E).1.1 9 ∧ (rf_hR R w M E).2.2.1 10 = nI (rf_hn R w M E) ∧ (∀ k, k ≠ 11 → k ≠ 12 → (rf_hR R w M E).2.1 k = R.2.1 k) ∧ (rf_hR R w M E).2.1 11 = (rf_hq R w M E).2.2.1 ∧ (rf_hR R w M E).2.1 12 = (rf_hq R w M E).2.2.2 ∧ (∀ k, k ≠ 10 → (rf_hR R w M E).2.2.1 k = R.2.2.1 k) ∧ (rf_hR R w M E).2.2.2 = R.2.2.2 := by
  obtain ⟨k, k2, -⟩ := rf_las_ok P w
  refine ⟨fun j hj => k.1 j hj, rfl, k2, fun j h1 h2 => ?_, rfl, rfl, fun j hj => k.2.2.1 j hj, k.2.2.2⟩
  rw [← k.2.1]
  show (if j = 12 then _ else if j = 11 then _ else _) = _
  rw [if_neg h2, if_neg h1]
theorem rf_hR_pre {R : rf_R} {M E : Nat} (P : rf_Pre R M E) (w : Int32) : rf_Pre (rf_hR R w M E) M E := by
  obtain ⟨k, -, -, -, -, -, k3, -⟩ := rf_hR_kp P w
  have k0 := k 0 (by decide)
  exact ⟨P.hM, P.hE, by rw [k0]; exact P.eM, by rw [k3 6 (by decide)]; exact P.eE, by rw [k0]; exact P.ok⟩
theorem rc_laysP (r : Nat) {R : rf_R} {M E : Nat} (P : rf_Pre R M E) (w : Int32) : rf_C 160 r [.ref r, .int w] R none (rf_las R w M E).1 := rc_lays r R w M E P.hM P.hE P.eM P.eE P.ok
theorem rc_leastHeat (r : Nat) {R : rf_R} {M E : Nat} (P : rf_Pre R M E) (w : Int32) : rf_C 159 r [.ref r, .int w] R (some (.long (rf_hv R w M E))) (rf_hR R w M E) := by
  intro h H
  show rf_G r 159 0 [.ref r, .int w, .retAddr 0, .retAddr 0, .retAddr 0, .retAddr 0, .retAddr 0] [] h _ _
  have P2 := rf_las_pre P w
  refine rf_G.step (pc' := 1) (st' := [_]) rfl rfl ?_
  refine rf_G.step (pc' := 2) (st' := [_, _]) rfl rfl ?_
  refine rf_G.v1V H rfl (by decide) rfl ⟨Nat.le_of_ble_eq_true rfl, rfl⟩ (Nat.le_of_ble_eq_true rfl) (rc_laysP r P w) (fun h H => ?_)
  refine rf_G.step (pc' := 6) (st' := [_]) rfl rfl ?_
  refine rf_G.step (pc' := 7) (ls' := [_, _, _, _, _, _, _]) (st' := []) rfl rfl ?_
  refine rf_G.step (pc' := 8) (st' := [_]) rfl rfl ?_
  refine rf_G.step (pc' := 10) (ls' := [_, _, _, _, _, _, _]) (st' := []) rfl rfl ?_
  refine rf_G.step (pc' := 11) (st' := [_]) rfl rfl ?_
  refine rf_G.step (pc' := 13) (ls' := [_, _, _, _, _, _, _]) (st' := []) rfl rfl ?_
  exact rc_least_loop r (rf_las R w M E).1 w M E (rf_hn R w M E) P2.hM P2.hE (rf_las_n P w) P2.eM P2.eE (rf_las_ok P w).2.1 P2.ok _ 0 (Nat.zero_add _) h (by unfold rf_lhR; rw [show rf_lh (rf_las R w M E).1 w M E 0 = (0, 0, (rf_las R w M E).1.2.1 11, (rf_las R w M E).1.2.1 12) from rfl]; rw [rf_sB_id]; exact H)
theorem rc_least_no (r : Nat) (R : rf_R) (w : Int32) (hw : ¬ (0 ≤ w.toInt ∧ w.toInt ≤ 3)) : rf_C 157 r [.ref r, .int w] R (some (.long (-1))) R := by
  intro h H
  show rf_G r 157 0 [.ref r, .int w] [] h _ _
  refine rf_G.step (pc' := 1) (st' := [_]) rfl rfl ?_
  refine rf_G.s1 rfl (by decide) rfl (Nat.le_of_ble_eq_true rfl) (Nat.le_of_ble_eq_true rfl) (rc_isWork w) ?_
  refine rf_G.br rfl (jx_br_eq _ _) (fun _ => ?_) (fun z => absurd ((rf_o_0 _).mpr hw) z)
  refine rf_G.step (pc' := 18) (st' := [_]) rfl rfl ?_
  exact rf_G.ret H rfl rfl
theorem rc_least (r : Nat) {R : rf_R} {M E : Nat} (P : rf_Pre R M E) (w : Int32) (hw : 0 ≤ w.toInt ∧ w.toInt ≤ 3) : rf_C 157 r [.ref r, .int w] R (some (.long (rf_hv R w M E))) (rf_hR R w M E) := by
  intro h H
  show rf_G r 157 0 [.ref r, .int w] [] h _ _
  refine rf_G.step (pc' := 1) (st' := [_]) rfl rfl ?_
  refine rf_G.s1 rfl (by decide) rfl (Nat.le_of_ble_eq_true rfl) (Nat.le_of_ble_eq_true rfl) (rc_isWork w) ?_
  refine rf_G.br rfl (jx_br_eq _ _) (fun z => absurd z (fun q => (rf_o_0 _).mp q hw)) (fun _ => ?_)
  refine rf_G.step (pc' := 8) (st' := [_]) rfl rfl ?_
  refine rf_G.step (pc' := 9) (st' := [_, _]) rfl rfl ?_
  refine rf_G.v1I H rfl (by decide) rfl ⟨Nat.le_of_ble_eq_true rfl, rfl⟩ (Nat.le_of_ble_eq_true rfl) (rc_leastHeat r P w) (fun h H => ?_)
  refine rf_G.step (pc' := 18) (st' := [_]) rfl rfl ?_
  exact rf_G.ret H rfl rfl
/-- the cold that the last level sends on -/
def rf_cd (R : rf_R) (w : Int32) (M E : Nat) : Int64 := if rf_hn R w M E = 0 then 0 else (rf_hq R w M E).2.2.2 (rf_hn R w M E - 1) + rf_hv R w M E
theorem nI_z {n : Nat} (h : n < 2 ^ 31) : nI n = 0 ↔ n = 0 := by
  constructor
  · intro q
    have := nI_clamp h
    rw [q] at this
    exact this.symm
  · intro q
    subst q
    rfl
theorem rc_cold_no (r : Nat) (R : rf_R) (w : Int32) (hw : ¬ (0 ≤ w.toInt ∧ w.toInt ≤ 3)) : rf_C 168 r [.ref r, .int w] R (some (.long (-1))) R := by
  intro h H
  show rf_G r 168 0 [.ref r, .int w, .retAddr 0, .retAddr 0] [] h _ _
  refine rf_G.step (pc' := 1) (st' := [_]) rfl rfl ?_
  refine rf_G.s1 rfl (by decide) rfl (Nat.le_of_ble_eq_true rfl) (Nat.le_of_ble_eq_true rfl) (rc_isWork w) ?_
  refine rf_G.brn rfl (fun z => absurd ((rf_o_0 _).mpr hw) z) (fun _ => ?_)
  refine rf_G.step (pc' := 10) (st' := [_]) rfl rfl ?_
  exact rf_G.ret H rfl rfl
theorem rc_cold (r : Nat) {R : rf_R} {M E : Nat} (P : rf_Pre R M E) (w : Int32) (hw : 0 ≤ w.toInt ∧ w.toInt ≤ 3) : rf_C 168 r [.ref r, .int w] R (some (.long (rf_cd R w M E))) (rf_hR R w M E) := by
  intro h H
  show rf_G r 168 0 [.ref r, .int w, .retAddr 0, .retAddr 0] [] h _ _
  have k := rf_hR_kp P w
  have hn := rf_las_n P w
  refine rf_G.step (pc' := 1) (st' := [_]) rfl rfl ?_
  refine rf_G.s1 rfl (by decide) rfl (Nat.le_of_ble_eq_true rfl) (Nat.le_of_ble_eq_true rfl) (rc_isWork w) ?_
  refine rf_G.brn rfl (fun _ => ?_) (fun z => absurd z (fun q => (rf_o_0 _).mp q hw))
  refine rf_G.step (pc' := 12) (st' := [_]) rfl rfl ?_
  refine rf_G.step (pc' := 13) (st' := [_, _]) rfl rfl ?_
  refine rf_G.v1I H rfl (by decide) rfl ⟨Nat.le_of_ble_eq_true rfl, rfl⟩ (Nat.le_of_ble_eq_true rfl) (rc_leastHeat r P w) (fun h H => ?_)
  refine rf_G.step (pc' := 17) (ls' := [_, _, _, _]) (st' := []) rfl rfl ?_
  refine rf_G.step (pc' := 18) (st' := [_]) rfl rfl ?_
  refine rf_G.get H rfl rfl ?_
  rw [k.2.2.1]
  unfold rf_cd
  refine rf_G.brn rfl (fun z => ?_) (fun z => ?_)
  · have z1 : ¬ rf_hn R w M E = 0 := fun q => z ((nI_z (by unfold rf_hn; omega)).mpr q)
    rw [if_neg z1]
    refine rf_G.step (pc' := 29) (st' := [_]) rfl rfl ?_
    refine rf_G.get H rfl rfl ?_
    refine rf_G.step (pc' := 33) (st' := [_, _]) rfl rfl ?_
    refine rf_G.get H rfl rfl ?_
    rw [k.2.2.1]
    refine rf_G.step (pc' := 37) (st' := [_, _, _]) rfl rfl ?_
    refine rf_G.step (pc' := 38) (st' := [_, _]) rfl rfl ?_
    rw [show nI (rf_hn R w M E) - 1 = nI (rf_hn R w M E - 1) by
      obtain ⟨j, hj⟩ : ∃ j, rf_hn R w M E = j + 1 := ⟨rf_hn R w M E - 1, by omega⟩
      rw [hj, nI_pred]; rfl]
    refine rf_G.lald H 12 8 130 (by decide) rfl (rf_ix (by unfold rf_hn; omega) (by decide)) ?_
    rw [nI_clamp (by unfold rf_hn; omega), k.2.2.2.2.2.1]
    refine rf_G.step (pc' := 40) (st' := [_, _]) rfl rfl ?_
    refine rf_G.step (pc' := 41) (st' := [_]) rfl rfl ?_
    exact rf_G.ret H rfl rfl
  · have z1 : rf_hn R w M E = 0 := (nI_z (by unfold rf_hn; omega)).mp z
    rw [if_pos z1]
    refine rf_G.step (pc' := 25) (st' := [_]) rfl rfl ?_
    refine rf_G.step (pc' := 41) (st' := [_]) rfl rfl ?_
    exact rf_G.ret H rfl rfl
theorem rc_levels_no (r : Nat) (R : rf_R) (w : Int32) (hw : ¬ (0 ≤ w.toInt ∧ w.toInt ≤ 3)) : rf_C 169 r [.ref r, .int w] R (some (.int (-1))) R := by
  intro h H
  show rf_G r 169 0 [.ref r, .int w] [] h _ _
  refine rf_G.step (pc' := 1) (st' := [_]) rfl rfl ?_
  refine rf_G.s1 rfl (by decide) rfl (Nat.le_of_ble_eq_true rfl) (Nat.le_of_ble_eq_true rfl) (rc_isWork w) ?_
  refine rf_G.brn rfl (fun z => absurd ((rf_o_0 _).mpr hw) z) (fun _ => ?_)
  refine rf_G.step (pc' := 8) (st' := [_]) rfl rfl ?_
  exact rf_G.ret H rfl rfl
theorem rc_levels (r : Nat) {R : rf_R} {M E : Nat} (P : rf_Pre R M E) (w : Int32) (hw : 0 ≤ w.toInt ∧ w.toInt ≤ 3) : rf_C 169 r [.ref r, .int w] R (some (.int (nI (rf_hn R w M E)))) (rf_las R w M E).1 := by
  intro h H
  show rf_G r 169 0 [.ref r, .int w] [] h _ _
  have k := rf_las_ok P w
  refine rf_G.step (pc' := 1) (st' := [_]) rfl rfl ?_
  refine rf_G.s1 rfl (by decide) rfl (Nat.le_of_ble_eq_true rfl) (Nat.le_of_ble_eq_true rfl) (rc_isWork w) ?_
  refine rf_G.brn rfl (fun _ => ?_) (fun z => absurd z (fun q => (rf_o_0 _).mp q hw))
  refine rf_G.step (pc' := 10) (st' := [_]) rfl rfl ?_
  refine rf_G.step (pc' := 11) (st' := [_, _]) rfl rfl ?_
  refine rf_G.v1V H rfl (by decide) rfl ⟨Nat.le_of_ble_eq_true rfl, rfl⟩ (Nat.le_of_ble_eq_true rfl) (rc_laysP r P w) (fun h H => ?_)
  refine rf_G.step (pc' := 15) (st' := [_]) rfl rfl ?_
  refine rf_G.get H rfl rfl ?_
  rw [k.2.1]
  exact rf_G.ret H rfl rfl
theorem rc_level_no (r : Nat) (R : rf_R) (w j : Int32) (hw : ¬ (0 ≤ w.toInt ∧ w.toInt ≤ 3)) : rf_C 170 r [.ref r, .int w, .int j] R (some (.int (-1))) R := by
  intro h H
  show rf_G r 170 0 [.ref r, .int w, .int j] [] h _ _
  refine rf_G.step (pc' := 1) (st' := [_]) rfl rfl ?_
  refine rf_G.s1 rfl (by decide) rfl (Nat.le_of_ble_eq_true rfl) (Nat.le_of_ble_eq_true rfl) (rc_isWork w) ?_
  refine rf_G.brn rfl (fun z => absurd ((rf_o_0 _).mpr hw) z) (fun _ => ?_)
  refine rf_G.step (pc' := 8) (st' := [_]) rfl rfl ?_
  exact rf_G.ret H rfl rfl
theorem nI_m1 {n : Nat} (h : n < 2 ^ 31) : (nI n - 1).toInt64.toInt = (n : Int) - 1 := by
  cases n with
  | zero => rfl
  | succ j => rw [nI_pred, rf_w, nI_toInt (by omega)]; omega
theorem rc_level (r : Nat) {R : rf_R} {M E : Nat} (P : rf_Pre R M E) (w j : Int32) (hw : 0 ≤ w.toInt ∧ w.toInt ≤ 3) : rf_C 170 r [.ref r, .int w, .int j] R (some (.int (if 0 ≤ j.toInt ∧ j.toInt ≤ (rf_hn R w M E : Int) - 1 then (rf_las R w M E).1.1 9 j.toNatClampNeg else -1))) (rf_las R w M E).1 := by
  intro h H
  show rf_G r 170 0 [.ref r, .int w, .int j] [] h _ _
  have k := rf_las_ok P w
  have hn := rf_las_n P w
  refine rf_G.step (pc' := 1) (st' := [_]) rfl rfl ?_
  refine rf_G.s1 rfl (by decide) rfl (Nat.le_of_ble_eq_true rfl) (Nat.le_of_ble_eq_true rfl) (rc_isWork w) ?_
  refine rf_G.brn rfl (fun _ => ?_) (fun z => absurd z (fun q => (rf_o_0 _).mp q hw))
  refine rf_G.step (pc' := 10) (st' := [_]) rfl rfl ?_
  refine rf_G.step (pc' := 11) (st' := [_, _]) rfl rfl ?_
  refine rf_G.v1V H rfl (by decide) rfl ⟨Nat.le_of_ble_eq_true rfl, rfl⟩ (Nat.le_of_ble_eq_true rfl) (rc_laysP r P w) (fun h H => ?_)
  refine rf_G.step (pc' := 15) (st' := [_]) rfl rfl ?_
  refine rf_G.step (pc' := 16) (st' := [_]) rfl rfl ?_
  refine rf_G.step (pc' := 17) (st' := [_, _]) rfl rfl ?_
  refine rf_G.step (pc' := 18) (st' := [_, _, _]) rfl rfl ?_
  refine rf_G.get H rfl rfl ?_
  rw [k.2.1]
  refine rf_G.step (pc' := 22) (st' := [_, _, _, _]) rfl rfl ?_
  refine rf_G.step (pc' := 23) (st' := [_, _, _]) rfl rfl ?_
  refine rf_G.step (pc' := 24) (st' := [_, _, _]) rfl rfl ?_
  refine rf_G.s3 rfl (by decide) rfl (Nat.le_of_ble_eq_true rfl) (Nat.le_of_ble_eq_true rfl) (fun h => rc_inI _ _ _ h) ?_
  rw [rf_w, nI_m1 (by omega)]
  refine rf_G.br rfl (jx_br_eq _ _) (fun z => ?_) (fun z => ?_)
  · rw [if_neg (show ¬ (0 ≤ j.toInt ∧ j.toInt ≤ (rf_hn R w M E : Int) - 1) from (rf_o_0 _).mp z)]
    refine rf_G.step (pc' := 40) (st' := [_]) rfl rfl ?_
    exact rf_G.ret H rfl rfl
  · have z1 := Decidable.not_not.mp (fun y => z ((rf_o_0 _).mpr y))
    have z2 : 0 ≤ j.toInt ∧ j.toInt ≤ (rf_hn R w M E : Int) - 1 := z1
    rw [if_pos z2]
    have z3 : rf_hn R w M E ≤ 110 := hn
    obtain ⟨i, hi, rfl⟩ := rf_nI (x := j) (n := 109) ⟨z2.1, by have := z2.2; omega⟩ (by decide)
    refine rf_G.step (pc' := 31) (st' := [_]) rfl rfl ?_
    refine rf_G.get H rfl rfl ?_
    refine rf_G.step (pc' := 35) (st' := [_, _]) rfl rfl ?_
    refine rf_G.iald H 9 6 130 (by decide) rfl (rf_ix (by omega) (by decide)) ?_
    refine rf_G.step (pc' := 40) (st' := [_]) rfl rfl ?_
    exact rf_G.ret H rfl rfl
theorem rc_goesOn_no (r : Nat) (R : rf_R) (w j : Int32) (hw : ¬ (0 ≤ w.toInt ∧ w.toInt ≤ 3)) : rf_C 171 r [.ref r, .int w, .int j] R (some (.long (-1))) R := by
  intro h H
  show rf_G r 171 0 [.ref r, .int w, .int j, .retAddr 0, .retAddr 0] [] h _ _
  refine rf_G.step (pc' := 1) (st' := [_]) rfl rfl ?_
  refine rf_G.s1 rfl (by decide) rfl (Nat.le_of_ble_eq_true rfl) (Nat.le_of_ble_eq_true rfl) (rc_isWork w) ?_
  refine rf_G.brn rfl (fun z => absurd ((rf_o_0 _).mpr hw) z) (fun _ => ?_)
  refine rf_G.step (pc' := 10) (st' := [_]) rfl rfl ?_
  exact rf_G.ret H rfl rfl
theorem rc_goesOn (r : Nat) {R : rf_R} {M E : Nat} (P : rf_Pre R M E) (w j : Int32) (hw : 0 ≤ w.toInt ∧ w.toInt ≤ 3) : rf_C 171 r [.ref r, .int w, .int j] R (some (.long (if 0 ≤ j.toInt ∧ j.toInt ≤ (rf_hn R w M E : Int) - 1 then (rf_hq R w M E).2.2.2 j.toNatClampNeg + rf_hv R w M E else -1))) (rf_hR R w M E) := by
  intro h H
  show rf_G r 171 0 [.ref r, .int w, .int j, .retAddr 0, .retAddr 0] [] h _ _
  have k := rf_hR_kp P w
  have hn := rf_las_n P w
  refine rf_G.step (pc' := 1) (st' := [_]) rfl rfl ?_
  refine rf_G.s1 rfl (by decide) rfl (Nat.le_of_ble_eq_true rfl) (Nat.le_of_ble_eq_true rfl) (rc_isWork w) ?_
  refine rf_G.brn rfl (fun _ => ?_) (fun z => absurd z (fun q => (rf_o_0 _).mp q hw))
  refine rf_G.step (pc' := 12) (st' := [_]) rfl rfl ?_
  refine rf_G.step (pc' := 13) (st' := [_, _]) rfl rfl ?_
  refine rf_G.v1I H rfl (by decide) rfl ⟨Nat.le_of_ble_eq_true rfl, rfl⟩ (Nat.le_of_ble_eq_true rfl) (rc_leastHeat r P w) (fun h H => ?_)
  refine rf_G.step (pc' := 17) (ls' := [_, _, _, _, _]) (st' := []) rfl rfl ?_
  refine rf_G.step (pc' := 18) (st' := [_]) rfl rfl ?_
  refine rf_G.step (pc' := 19) (st' := [_]) rfl rfl ?_
  refine rf_G.step (pc' := 20) (st' := [_, _]) rfl rfl ?_
  refine rf_G.step (pc' := 21) (st' := [_, _, _]) rfl rfl ?_
  refine rf_G.get H rfl rfl ?_
  rw [k.2.2.1]
  refine rf_G.step (pc' := 25) (st' := [_, _, _, _]) rfl rfl ?_
  refine rf_G.step (pc' := 26) (st' := [_, _, _]) rfl rfl ?_
  refine rf_G.step (pc' := 27) (st' := [_, _, _]) rfl rfl ?_
  refine rf_G.s3 rfl (by decide) rfl (Nat.le_of_ble_eq_true rfl) (Nat.le_of_ble_eq_true rfl) (fun h => rc_inI _ _ _ h) ?_
  rw [rf_w, nI_m1 (by unfold rf_hn; omega)]
  refine rf_G.br rfl (jx_br_eq _ _) (fun z => ?_) (fun z => ?_)
  · rw [if_neg (show ¬ (0 ≤ j.toInt ∧ j.toInt ≤ (rf_hn R w M E : Int) - 1) from (rf_o_0 _).mp z)]
    refine rf_G.step (pc' := 47) (st' := [_]) rfl rfl ?_
    exact rf_G.ret H rfl rfl
  · have z2 : 0 ≤ j.toInt ∧ j.toInt ≤ (rf_hn R w M E : Int) - 1 := Decidable.not_not.mp (fun y => z ((rf_o_0 _).mpr y))
    rw [if_pos z2]
    have z3 : rf_hn R w M E ≤ 110 := hn
    obtain ⟨i, hi, rfl⟩ := rf_nI (x := j) (n := 109) ⟨z2.1, by have := z2.2; omega⟩ (by decide)
    refine rf_G.step (pc' := 34) (st' := [_]) rfl rfl ?_
    refine rf_G.get H rfl rfl ?_
    refine rf_G.step (pc' := 38) (st' := [_, _]) rfl rfl ?_
    refine rf_G.lald H 12 8 130 (by decide) rfl (rf_ix (by omega) (by decide)) ?_
    rw [k.2.2.2.2.2.1]
    refine rf_G.step (pc' := 40) (st' := [_, _]) rfl rfl ?_
    refine rf_G.step (pc' := 41) (st' := [_]) rfl rfl ?_
    refine rf_G.step (pc' := 47) (st' := [_]) rfl rfl ?_
    exact rf_G.ret H rfl rfl
/-- a pinch at level i, where n levels stand -/
abbrev rf_ip (ah be : Int64) (n i : Nat) (heat : Int64) : Prop := ¬ (i = 0 ∧ heat = 0 ∨ i = n - 1 ∧ be + heat = 0) ∧ (be + heat = 0 ∨ ah + heat = 0)
theorem lg_cmp_eq0 (x y : Int64) : lg_cmp x y = 0 ↔ x = y := by
  constructor
  · intro q
    have h1 : ¬ x < y := fun z => by
      have := (lg_cmp_lt0 x y).mpr z
      rw [q] at this
      exact absurd this (by decide)
    have h2 : ¬ y < x := fun z => by
      have := (lg_cmp_gt0 x y).mpr z
      rw [q] at this
      exact absurd this (by decide)
    exact Int64.le_antisymm (Int64.not_lt.mp h2) (Int64.not_lt.mp h1)
  · intro q
    subst q
    unfold lg_cmp
    simp
theorem nI_inj {a b : Nat} (ha : a < 2 ^ 31) (hb : b < 2 ^ 31) : nI a = nI b ↔ a = b := by
  constructor
  · intro q
    have h1 := nI_clamp ha
    have h2 := nI_clamp hb
    rw [q] at h1
    omega
  · intro q
    rw [q]
theorem rc_isPinch (r : Nat) (R : rf_R) (n i : Nat) (hn : n ≤ 110) (hi : i < n) (en : R.2.2.1 10 = nI n) (heat : Int64) : rf_C 174 r [.ref r, .int (nI i), .long heat] R (some (.int (rf_o (rf_ip (R.2.1 11 i) (R.2.1 12 i) n i heat)))) R := by
  have e1 : nI n - 1 = nI (n - 1) := by
    obtain ⟨j, rfl⟩ : ∃ j, n = j + 1 := ⟨n - 1, by omega⟩
    rw [nI_pred]; rfl
  intro h H
  show rf_G r 174 0 [.ref r, .int (nI i), .long heat, .retAddr 0] [] h _ _
  have t33 : ∀ h, (i = 0 ∧ heat = 0 ∨ i = n - 1 ∧ R.2.1 12 i + heat = 0) → rf_At r R h → rf_G r 174 33 [.ref r, .int (nI i), .long heat, .retAddr 0] [] h (some (.int (rf_o (rf_ip (R.2.1 11 i) (R.2.1 12 i) n i heat)))) R := by
    intro h q H
    rw [rf_of (fun y => y.1 q)]
    refine rf_G.step (pc' := 34) (st' := [_]) rfl rfl ?_
    exact rf_G.ret H rfl rfl
  have t35 : ∀ h, ¬ (i = 0 ∧ heat = 0 ∨ i = n - 1 ∧ R.2.1 12 i + heat = 0) → rf_At r R h → rf_G r 174 35 [.ref r, .int (nI i), .long heat, .retAddr 0] [] h (some (.int (rf_o (rf_ip (R.2.1 11 i) (R.2.1 12 i) n i heat)))) R := by
    intro h q H
    refine rf_G.step (pc' := 36) (st' := [_]) rfl rfl ?_
    refine rf_G.get H rfl rfl ?_
    refine rf_G.step (pc' := 40) (st' := [_, _]) rfl rfl ?_
    refine rf_G.lald H 12 8 130 (by decide) rfl (rf_ix (by omega) (by decide)) ?_
    rw [nI_clamp (by omega)]
    refine rf_G.step (pc' := 42) (st' := [_, _]) rfl rfl ?_
    refine rf_G.step (pc' := 43) (st' := [_]) rfl rfl ?_
    refine rf_G.step (pc' := 44) (st' := [_, _]) rfl rfl ?_
    refine rf_G.step (pc' := 45) (st' := [_]) rfl rfl ?_
    refine rf_G.br rfl (jx_br_eq _ _) (fun z => ?_) (fun z => ?_)
    · rw [rf_ot (P := rf_ip (R.2.1 11 i) (R.2.1 12 i) n i heat) ⟨q, Or.inl ((lg_cmp_eq0 _ _).mp z)⟩]
      refine rf_G.step (pc' := 62) (st' := [_]) rfl rfl ?_
      refine rf_G.step (pc' := 66) (st' := [_]) rfl rfl ?_
      exact rf_G.ret H rfl rfl
    · refine rf_G.step (pc' := 49) (st' := [_]) rfl rfl ?_
      refine rf_G.get H rfl rfl ?_
      refine rf_G.step (pc' := 53) (st' := [_, _]) rfl rfl ?_
      refine rf_G.lald H 11 7 130 (by decide) rfl (rf_ix (by omega) (by decide)) ?_
      rw [nI_clamp (by omega)]
      refine rf_G.step (pc' := 55) (st' := [_, _]) rfl rfl ?_
      refine rf_G.step (pc' := 56) (st' := [_]) rfl rfl ?_
      refine rf_G.step (pc' := 57) (st' := [_, _]) rfl rfl ?_
      refine rf_G.step (pc' := 58) (st' := [_]) rfl rfl ?_
      refine rf_G.brn rfl (fun y => ?_) (fun y => ?_)
      · rw [rf_of (fun u => u.2.elim (fun u => z ((lg_cmp_eq0 _ _).mpr u)) (fun u => y ((lg_cmp_eq0 _ _).mpr u)))]
        refine rf_G.step (pc' := 66) (st' := [_]) rfl rfl ?_
        exact rf_G.ret H rfl rfl
      · rw [rf_ot (P := rf_ip (R.2.1 11 i) (R.2.1 12 i) n i heat) ⟨q, Or.inr ((lg_cmp_eq0 _ _).mp y)⟩]
        refine rf_G.step (pc' := 62) (st' := [_]) rfl rfl ?_
        refine rf_G.step (pc' := 66) (st' := [_]) rfl rfl ?_
        exact rf_G.ret H rfl rfl
  have t10 : ∀ h, ¬ (i = 0 ∧ heat = 0) → rf_At r R h → rf_G r 174 10 [.ref r, .int (nI i), .long heat, .retAddr 0] [] h (some (.int (rf_o (rf_ip (R.2.1 11 i) (R.2.1 12 i) n i heat)))) R := by
    intro h q H
    refine rf_G.step (pc' := 11) (st' := [_]) rfl rfl ?_
    refine rf_G.step (pc' := 12) (st' := [_, _]) rfl rfl ?_
    refine rf_G.get H rfl rfl ?_
    rw [en]
    refine rf_G.step (pc' := 16) (st' := [_, _, _]) rfl rfl ?_
    refine rf_G.step (pc' := 17) (st' := [_, _]) rfl rfl ?_
    rw [e1]
    refine rf_G.bcn rfl (fun z => ?_) (fun z => ?_)
    · exact t35 h (fun u => u.elim q (fun u => z ((nI_inj (by omega) (by omega)).mpr u.1))) H
    · have z1 := (nI_inj (by omega) (by omega)).mp z
      refine rf_G.step (pc' := 21) (st' := [_]) rfl rfl ?_
      refine rf_G.get H rfl rfl ?_
      refine rf_G.step (pc' := 25) (st' := [_, _]) rfl rfl ?_
      refine rf_G.lald H 12 8 130 (by decide) rfl (rf_ix (by omega) (by decide)) ?_
      rw [nI_clamp (by omega)]
      refine rf_G.step (pc' := 27) (st' := [_, _]) rfl rfl ?_
      refine rf_G.step (pc' := 28) (st' := [_]) rfl rfl ?_
      refine rf_G.step (pc' := 29) (st' := [_, _]) rfl rfl ?_
      refine rf_G.step (pc' := 30) (st' := [_]) rfl rfl ?_
      refine rf_G.brn rfl (fun y => ?_) (fun y => ?_)
      · exact t35 h (fun u => u.elim q (fun u => y ((lg_cmp_eq0 _ _).mpr u.2))) H
      · exact t33 h (Or.inr ⟨z1, (lg_cmp_eq0 _ _).mp y⟩) H
  refine rf_G.step (pc' := 1) (st' := [_]) rfl rfl ?_
  refine rf_G.brn rfl (fun z => ?_) (fun z => ?_)
  · exact t10 h (fun u => z ((nI_z (by omega)).mpr u.1)) H
  · have z1 := (nI_z (by omega)).mp z
    refine rf_G.step (pc' := 5) (st' := [_]) rfl rfl ?_
    refine rf_G.step (pc' := 6) (st' := [_, _]) rfl rfl ?_
    refine rf_G.step (pc' := 7) (st' := [_]) rfl rfl ?_
    refine rf_G.br rfl (jx_br_eq _ _) (fun y => ?_) (fun y => ?_)
    · exact t33 h (Or.inl ⟨z1, (lg_cmp_eq0 _ _).mp y⟩) H
    · exact t10 h (fun u => y ((lg_cmp_eq0 _ _).mpr u.2)) H
/-- the place of the pinch wanted: c places left, at i, s seen -/
def rf_pn (ah be : Nat → Int64) (n : Nat) (heat : Int64) (k : Int32) : Nat → Nat → Int32 → Int32
  | 0, _, _ => -1
  | d + 1, i, s => if rf_ip (ah i) (be i) n i heat then (if s = k then nI i else rf_pn ah be n heat k d (i + 1) (s + 1)) else rf_pn ah be n heat k d (i + 1) s
def rf_pa (R : rf_R) (w : Int32) (M E : Nat) (k : Int32) : Int32 := rf_pn (rf_hq R w M E).2.2.1 (rf_hq R w M E).2.2.2 (rf_hn R w M E) (rf_hv R w M E) k (rf_hn R w M E) 0 0
theorem rf_pn_in (ah be : Nat → Int64) (n : Nat) (heat : Int64) (k : Int32) : ∀ d i s, rf_pn ah be n heat k d i s = -1 ∨ ∃ j, i ≤ j ∧ j < i + d ∧ rf_pn ah be n heat k d i s = nI j
  | 0, _, _ => Or.inl rfl
  | d + 1, i, s => by
    unfold rf_pn
    split
    · split
      · exact Or.inr ⟨i, by omega, by omega, rfl⟩
      · rcases rf_pn_in ah be n heat k d (i + 1) (s + 1) with h | ⟨j, h1, h2, h3⟩
        · exact Or.inl h
        · exact Or.inr ⟨j, by omega, by omega, h3⟩
    · rcases rf_pn_in ah be n heat k d (i + 1) s with h | ⟨j, h1, h2, h3⟩
      · exact Or.inl h
      · exact Or.inr ⟨j, by omega, by omega, h3⟩
theorem rc_pinchAt (r : Nat) {R : rf_R} {M E : Nat} (P : rf_Pre R M E) (w k : Int32) : rf_C 173 r [.ref r, .int w, .int k] R (some (.int (rf_pa R w M E k))) (rf_hR R w M E) := by
  have kp := rf_hR_kp P w
  have hn : rf_hn R w M E ≤ 110 := rf_las_n P w
  have loop : ∀ (d i : Nat) (s : Int32), i + d = rf_hn R w M E → ∀ h, rf_At r (rf_hR R w M E) h → rf_G r 173 12 [.ref r, .int w, .int k, .long (rf_hv R w M E), .retAddr 0, .int s, .int (nI i)] [] h (some (.int (rf_pn (rf_hq R w M E).2.2.1 (rf_hq R w M E).2.2.2 (rf_hn R w M E) (rf_hv R w M E) k d i s))) (rf_hR R w M E) := by
    intro d
    induction d with
    | zero =>
      intro i s hi h H
      refine rf_G.step (pc' := 14) (st' := [_]) rfl rfl ?_
      refine rf_G.step (pc' := 15) (st' := [_, _]) rfl rfl ?_
      refine rf_G.get H rfl rfl ?_
      rw [kp.2.2.1, show i = rf_hn R w M E by omega]
      refine rf_G.bc rfl (jx_br_ge _ _) (fun _ => ?_) (fun z => absurd (Int32.le_refl _) z)
      refine rf_G.step (pc' := 53) (st' := [_]) rfl rfl ?_
      exact rf_G.ret H rfl rfl
    | succ d ih =>
      intro i s hi h H
      have nx := fun s => ih (i + 1) s (by omega)
      rw [← nI_1] at nx
      refine rf_G.step (pc' := 14) (st' := [_]) rfl rfl ?_
      refine rf_G.step (pc' := 15) (st' := [_, _]) rfl rfl ?_
      refine rf_G.get H rfl rfl ?_
      rw [kp.2.2.1]
      refine rf_G.bc rfl (jx_br_ge _ _) (fun z => absurd z (nI_ge (by omega) (by omega))) (fun _ => ?_)
      have ci := rc_isPinch r (rf_hR R w M E) (rf_hn R w M E) i hn (by omega) kp.2.2.1 (rf_hv R w M E)
      rw [kp.2.2.2.2.1, kp.2.2.2.2.2.1] at ci
      refine rf_G.step (pc' := 22) (st' := [_]) rfl rfl ?_
      refine rf_G.step (pc' := 24) (st' := [_, _]) rfl rfl ?_
      refine rf_G.step (pc' := 25) (st' := [_, _, _]) rfl rfl ?_
      refine rf_G.v2I H rfl (by decide) rfl ⟨Nat.le_of_ble_eq_true rfl, rfl⟩ (Nat.le_of_ble_eq_true rfl) (ci) (fun h H => ?_)
      unfold rf_pn
      refine rf_G.brn rfl (fun z => ?_) (fun z => ?_)
      · rw [if_pos (Decidable.not_not.mp (fun y => z ((rf_o_0 _).mpr y)))]
        refine rf_G.step (pc' := 36) (st' := [_]) rfl rfl ?_
        refine rf_G.step (pc' := 37) (st' := [_, _]) rfl rfl ?_
        refine rf_G.bcn rfl (fun y => ?_) (fun y => ?_)
        · rw [if_neg y]
          refine rf_G.step (pc' := 46) (ls' := [_, _, _, _, _, _, _]) (st' := []) rfl rfl ?_
          refine rf_G.step (pc' := 49) (ls' := [_, _, _, _, _, _, _]) (st' := []) rfl rfl ?_
          refine rf_G.step (pc' := 12) (st' := []) rfl rfl ?_
          exact nx _ h H
        · rw [if_pos y]
          refine rf_G.step (pc' := 42) (st' := [_]) rfl rfl ?_
          exact rf_G.ret H rfl rfl
      · rw [if_neg ((rf_o_0 _).mp z)]
        refine rf_G.step (pc' := 46) (st' := []) rfl rfl ?_
        refine rf_G.step (pc' := 49) (ls' := [_, _, _, _, _, _, _]) (st' := []) rfl rfl ?_
        refine rf_G.step (pc' := 12) (st' := []) rfl rfl ?_
        exact nx _ h H
  intro h H
  show rf_G r 173 0 [.ref r, .int w, .int k, .retAddr 0, .retAddr 0, .retAddr 0, .retAddr 0] [] h _ _
  refine rf_G.step (pc' := 1) (st' := [_]) rfl rfl ?_
  refine rf_G.step (pc' := 2) (st' := [_, _]) rfl rfl ?_
  refine rf_G.v1I H rfl (by decide) rfl ⟨Nat.le_of_ble_eq_true rfl, rfl⟩ (Nat.le_of_ble_eq_true rfl) (rc_leastHeat r P w) (fun h H => ?_)
  refine rf_G.step (pc' := 6) (ls' := [_, _, _, _, _, _, _]) (st' := []) rfl rfl ?_
  refine rf_G.step (pc' := 7) (st' := [_]) rfl rfl ?_
  refine rf_G.step (pc' := 9) (ls' := [_, _, _, _, _, _, _]) (st' := []) rfl rfl ?_
  refine rf_G.step (pc' := 10) (st' := [_]) rfl rfl ?_
  refine rf_G.step (pc' := 12) (ls' := [_, _, _, _, _, _, _]) (st' := []) rfl rfl ?_
  exact loop _ 0 0 (by omega) h H
theorem rc_pinch_no (r : Nat) (R : rf_R) (w k : Int32) (hw : ¬ (0 ≤ w.toInt ∧ w.toInt ≤ 3)) : rf_C 172 r [.ref r, .int w, .int k] R (some (.int (-1))) R := by
  intro h H
  show rf_G r 172 0 [.ref r, .int w, .int k, .retAddr 0] [] h _ _
  refine rf_G.step (pc' := 1) (st' := [_]) rfl rfl ?_
  refine rf_G.s1 rfl (by decide) rfl (Nat.le_of_ble_eq_true rfl) (Nat.le_of_ble_eq_true rfl) (rc_isWork w) ?_
  refine rf_G.brn rfl (fun z => absurd ((rf_o_0 _).mpr hw) z) (fun _ => ?_)
  refine rf_G.step (pc' := 8) (st' := [_]) rfl rfl ?_
  exact rf_G.ret H rfl rfl
theorem rc_pinch (r : Nat) {R : rf_R} {M E : Nat} (P : rf_Pre R M E) (w k : Int32) (hw : 0 ≤ w.toInt ∧ w.toInt ≤ 3) : rf_C 172 r [.ref r, .int w, .int k] R (some (.int (if rf_pa R w M E k < 0 then -1 else (rf_las R w M E).1.1 9 (rf_pa R w M E k).toNatClampNeg))) (rf_hR R w M E) := by
  have kp := rf_hR_kp P w
  have hn : rf_hn R w M E ≤ 110 := rf_las_n P w
  intro h H
  show rf_G r 172 0 [.ref r, .int w, .int k, .retAddr 0] [] h _ _
  refine rf_G.step (pc' := 1) (st' := [_]) rfl rfl ?_
  refine rf_G.s1 rfl (by decide) rfl (Nat.le_of_ble_eq_true rfl) (Nat.le_of_ble_eq_true rfl) (rc_isWork w) ?_
  refine rf_G.brn rfl (fun _ => ?_) (fun z => absurd z (fun q => (rf_o_0 _).mp q hw))
  refine rf_G.step (pc' := 10) (st' := [_]) rfl rfl ?_
  refine rf_G.step (pc' := 11) (st' := [_, _]) rfl rfl ?_
  refine rf_G.step (pc' := 12) (st' := [_, _, _]) rfl rfl ?_
  refine rf_G.v2I H rfl (by decide) rfl ⟨Nat.le_of_ble_eq_true rfl, rfl⟩ (Nat.le_of_ble_eq_true rfl) (rc_pinchAt r P w k) (fun h H => ?_)
  refine rf_G.step (pc' := 16) (ls' := [_, _, _, _]) (st' := []) rfl rfl ?_
  refine rf_G.step (pc' := 17) (st' := [_]) rfl rfl ?_
  refine rf_G.br rfl (jx_br_ge _ _) (fun z => ?_) (fun z => ?_)
  · rw [if_neg (Int32.not_lt.mpr z)]
    rcases rf_pn_in (rf_hq R w M E).2.2.1 (rf_hq R w M E).2.2.2 (rf_hn R w M E) (rf_hv R w M E) k (rf_hn R w M E) 0 0 with q | ⟨j, q1, q2, q3⟩
    · rw [show rf_pa R w M E k = -1 from q] at z
      exact absurd z (by decide)
    · rw [show rf_pa R w M E k = nI j from q3]
      refine rf_G.step (pc' := 25) (st' := [_]) rfl rfl ?_
      refine rf_G.get H rfl rfl ?_
      refine rf_G.step (pc' := 29) (st' := [_, _]) rfl rfl ?_
      refine rf_G.iald H 9 6 130 (by decide) rfl (rf_ix (by omega) (by decide)) ?_
      rw [kp.2.1]
      exact rf_G.ret H rfl rfl
  · rw [if_pos (Int32.not_le.mp z)]
    refine rf_G.step (pc' := 21) (st' := [_]) rfl rfl ?_
    refine rf_G.step (pc' := 30) (st' := [_]) rfl rfl ?_
    exact rf_G.ret H rfl rfl
