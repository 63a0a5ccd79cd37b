/-! switches; finding, about -/
theorem rf_G.swI {r m pc : Nat} {ls st : List Value} {h : jx_H} {v : Option Value} {R2 : rf_R} {d lo hi : Int} {offs : Array Int} {len x y tgt : Nat} {vv : Value} {a : Int32} {o : Int} (hr : jx_rc m pc = some (.tableswitch d lo hi offs, len, x, y, vv)) (h1 : lo ≤ a.toInt ∧ a.toInt ≤ hi) (ho : offs[(a.toInt - lo).toNat]? = some o) (ht : (pc : Int) + o = (tgt : Int)) (k : rf_G r m tgt ls st h v R2) : rf_G r m pc ls (.int a :: st) h v R2 := by
  refine rf_G.step (pc' := tgt) (ls' := ls) (st' := st) hr ?_ k
  have e1 : ¬ (a.toInt < lo ∨ hi < a.toInt) := by omega
  simp only [jx_act, if_neg e1, ho, ht]
  rw [if_pos (Int.natCast_nonneg tgt)]
  rfl
theorem rf_G.swO {r m pc : Nat} {ls st : List Value} {h : jx_H} {v : Option Value} {R2 : rf_R} {d lo hi : Int} {offs : Array Int} {len x y tgt : Nat} {vv : Value} {a : Int32} (hr : jx_rc m pc = some (.tableswitch d lo hi offs, len, x, y, vv)) (h1 : ¬ (lo ≤ a.toInt ∧ a.toInt ≤ hi)) (ht : (pc : Int) + d = (tgt : Int)) (k : rf_G r m tgt ls st h v R2) : rf_G r m pc ls (.int a :: st) h v R2 := by
  refine rf_G.step (pc' := tgt) (ls' := ls) (st' := st) hr ?_ k
  have e1 : a.toInt < lo ∨ hi < a.toInt := by omega
  simp only [jx_act, if_pos e1, ht]
  rw [if_pos (Int.natCast_nonneg tgt)]
  rfl
def rf_fin (R : rf_R) (w : Int32) : Int64 := if w = 0 then (R.2.2.1 24).toInt64 else if w = 1 then R.2.2.2 21 else if w = 2 then R.2.2.2 22 else if w = 3 then R.2.2.2 23 else -1
theorem rc_finding (r : Nat) (R : rf_R) (w : Int32) : rf_C 186 r [.ref r, .int w] R (some (.long (rf_fin R w))) R := by
  intro h H
  show rf_G r 186 0 [.ref r, .int w] [] h _ _
  refine rf_G.step (pc' := 1) (st' := [_]) rfl rfl ?_
  by_cases hw : 0 ≤ w.toInt ∧ w.toInt ≤ 3
  · obtain ⟨j, hj, rfl⟩ := rf_nI (n := 3) hw (by decide)
    match j, hj with
    | 0, _ =>
      refine rf_G.swI (tgt := 32) (o := 31) rfl (by decide) (by decide) (by decide) ?_
      refine rf_G.step (pc' := 33) (st' := [_]) rfl rfl ?_
      refine rf_G.get H rfl rfl ?_
      refine rf_G.step (pc' := 37) (st' := [_]) rfl rfl ?_
      exact rf_G.ret H rfl rfl
    | 1, _ =>
      refine rf_G.swI (tgt := 38) (o := 37) rfl (by decide) (by decide) (by decide) ?_
      refine rf_G.step (pc' := 39) (st' := [_]) rfl rfl ?_
      refine rf_G.get H rfl rfl ?_
      exact rf_G.ret H rfl rfl
    | 2, _ =>
      refine rf_G.swI (tgt := 43) (o := 42) rfl (by decide) (by decide) (by decide) ?_
      refine rf_G.step (pc' := 44) (st' := [_]) rfl rfl ?_
      refine rf_G.get H rfl rfl ?_
      exact rf_G.ret H rfl rfl
    | 3, _ =>
      refine rf_G.swI (tgt := 48) (o := 47) rfl (by decide) (by decide) (by decide) ?_
      refine rf_G.step (pc' := 49) (st' := [_]) rfl rfl ?_
      refine rf_G.get H rfl rfl ?_
      exact rf_G.ret H rfl rfl
  · refine rf_G.swO (tgt := 53) rfl hw (by decide) ?_
    have e : rf_fin R w = -1 := by
      unfold rf_fin
      rw [if_neg (fun q => hw (by rw [q]; decide)), if_neg (fun q => hw (by rw [q]; decide)), if_neg (fun q => hw (by rw [q]; decide)), if_neg (fun q => hw (by rw [q]; decide))]
    rw [e]
    refine rf_G.step (pc' := 56) (st' := [_]) rfl rfl ?_
    exact rf_G.ret H rfl rfl
theorem rc_about_no (r : Nat) (R : rf_R) (M : Nat) (hM : M ≤ 12) (eM : R.1 0 0 = nI M) (s w : Int32) (hs : ¬ (0 ≤ s.toInt ∧ s.toInt < M)) : rf_C 154 r [.ref r, .int s, .int w] R (some (.int (-1))) R := by
  intro h H
  show rf_G r 154 0 [.ref r, .int s, .int w] [] h _ _
  refine rf_G.step (pc' := 1) (st' := [_]) rfl rfl ?_
  refine rf_G.step (pc' := 2) (st' := [_, _]) rfl rfl ?_
  refine rf_G.v1I H rfl (by decide) rfl ⟨Nat.le_of_ble_eq_true rfl, rfl⟩ (Nat.le_of_ble_eq_true rfl) (rc_isStream r R M hM eM s) (fun h H => ?_)
  refine rf_G.brn rfl (fun z => absurd ((rf_o_0 _).mpr hs) z) (fun _ => ?_)
  refine rf_G.step (pc' := 9) (st' := [_]) rfl rfl ?_
  exact rf_G.ret H rfl rfl
def rf_abt (N : Nat → Int32) (s p : Nat) (w : Int32) : Int32 :=
  if w = 0 then N (2 + 24 * s) else if w = 1 then N (2 + 24 * s + 1) else if w = 2 then N (2 + 24 * s + 2) else if w = 3 then N (2 + 24 * s + 3) else if w = 4 then rf_end N s p
  else if w = 5 then (if N (2 + 24 * s) < 3 then (if N (2 + 24 * s) = 1 then N (2 + 24 * s + 5) else rf_tot N s p) else N (2 + 24 * s + 5)) else if w = 6 then N (2 + 24 * s + 4) else -1
theorem rc_about (r : Nat) (R : rf_R) (M : Nat) (hM : M ≤ 12) (eM : R.1 0 0 = nI M) (s p : Nat) (hs : s < M) (hp : p ≤ 8) (ep : R.1 0 (2 + 24 * s + 4) = nI p) (w : Int32) : rf_C 154 r [.ref r, .int (nI s), .int w] R (some (.int (rf_abt (R.1 0) s p w))) R := by
  have hs2 : s < 12 := by omega
  intro h H
  show rf_G r 154 0 [.ref r, .int (nI s), .int w] [] h _ _
  refine rf_G.step (pc' := 1) (st' := [_]) rfl rfl ?_
  refine rf_G.step (pc' := 2) (st' := [_, _]) rfl rfl ?_
  refine rf_G.v1I H rfl (by decide) rfl ⟨Nat.le_of_ble_eq_true rfl, rfl⟩ (Nat.le_of_ble_eq_true rfl) (rc_isStream r R M hM eM (nI s)) (fun h H => ?_)
  refine rf_G.brn rfl (fun _ => ?_) (fun z => absurd (rf_inM hs hM) ((rf_o_0 _).mp z))
  refine rf_G.step (pc' := 11) (st' := [_]) rfl rfl ?_
  by_cases hw : 0 ≤ w.toInt ∧ w.toInt ≤ 6
  · obtain ⟨j, hj, rfl⟩ := rf_nI (n := 6) hw (by decide)
    match j, hj with
    | 0, _ =>
      refine rf_G.swI (tgt := 52) (o := 41) rfl (by decide) (by decide) (by decide) ?_
      refine rf_G.step (pc' := 53) (st' := [_]) rfl rfl ?_
      refine rf_G.step (pc' := 54) (st' := [_, _]) rfl rfl ?_
      refine rf_G.step (pc' := 55) (st' := [_, _, _]) rfl rfl ?_
      refine rf_G.v2I H rfl (by decide) rfl ⟨Nat.le_of_ble_eq_true rfl, rfl⟩ (Nat.le_of_ble_eq_true rfl) (rc_of r R s 0 hs2 (by decide)) (fun h H => ?_)
      exact rf_G.ret H rfl rfl
    | 1, _ =>
      refine rf_G.swI (tgt := 59) (o := 48) rfl (by decide) (by decide) (by decide) ?_
      refine rf_G.step (pc' := 60) (st' := [_]) rfl rfl ?_
      refine rf_G.step (pc' := 61) (st' := [_, _]) rfl rfl ?_
      refine rf_G.step (pc' := 62) (st' := [_, _, _]) rfl rfl ?_
      refine rf_G.v2I H rfl (by decide) rfl ⟨Nat.le_of_ble_eq_true rfl, rfl⟩ (Nat.le_of_ble_eq_true rfl) (rc_of r R s 1 hs2 (by decide)) (fun h H => ?_)
      exact rf_G.ret H rfl rfl
    | 2, _ =>
      refine rf_G.swI (tgt := 66) (o := 55) rfl (by decide) (by decide) (by decide) ?_
      refine rf_G.step (pc' := 67) (st' := [_]) rfl rfl ?_
      refine rf_G.step (pc' := 68) (st' := [_, _]) rfl rfl ?_
      refine rf_G.step (pc' := 69) (st' := [_, _, _]) rfl rfl ?_
      refine rf_G.v2I H rfl (by decide) rfl ⟨Nat.le_of_ble_eq_true rfl, rfl⟩ (Nat.le_of_ble_eq_true rfl) (rc_of r R s 2 hs2 (by decide)) (fun h H => ?_)
      exact rf_G.ret H rfl rfl
    | 3, _ =>
      refine rf_G.swI (tgt := 73) (o := 62) rfl (by decide) (by decide) (by decide) ?_
      refine rf_G.step (pc' := 74) (st' := [_]) rfl rfl ?_
      refine rf_G.step (pc' := 75) (st' := [_, _]) rfl rfl ?_
      refine rf_G.step (pc' := 76) (st' := [_, _, _]) rfl rfl ?_
      refine rf_G.v2I H rfl (by decide) rfl ⟨Nat.le_of_ble_eq_true rfl, rfl⟩ (Nat.le_of_ble_eq_true rfl) (rc_of r R s 3 hs2 (by decide)) (fun h H => ?_)
      exact rf_G.ret H rfl rfl
    | 4, _ =>
      refine rf_G.swI (tgt := 80) (o := 69) rfl (by decide) (by decide) (by decide) ?_
      refine rf_G.step (pc' := 81) (st' := [_]) rfl rfl ?_
      refine rf_G.step (pc' := 82) (st' := [_, _]) rfl rfl ?_
      refine rf_G.v1I H rfl (by decide) rfl ⟨Nat.le_of_ble_eq_true rfl, rfl⟩ (Nat.le_of_ble_eq_true rfl) (rc_ends r R s p hs2 hp ep) (fun h H => ?_)
      exact rf_G.ret H rfl rfl
    | 5, _ =>
      refine rf_G.swI (tgt := 86) (o := 75) rfl (by decide) (by decide) (by decide) ?_
      show rf_G r 154 86 [.ref r, .int (nI s), .int (nI 5)] [] h (some (.int (if R.1 0 (2 + 24 * s) < 3 then (if R.1 0 (2 + 24 * s) = 1 then R.1 0 (2 + 24 * s + 5) else rf_tot (R.1 0) s p) else R.1 0 (2 + 24 * s + 5)))) R
      refine rf_G.step (pc' := 87) (st' := [_]) rfl rfl ?_
      refine rf_G.step (pc' := 88) (st' := [_, _]) rfl rfl ?_
      refine rf_G.step (pc' := 89) (st' := [_, _, _]) rfl rfl ?_
      refine rf_G.v2I H rfl (by decide) rfl ⟨Nat.le_of_ble_eq_true rfl, rfl⟩ (Nat.le_of_ble_eq_true rfl) (rc_of r R s 0 hs2 (by decide)) (fun h H => ?_)
      refine rf_G.step (pc' := 93) (st' := [_, _]) rfl rfl ?_
      rw [Nat.add_zero]
      refine rf_G.bc rfl (jx_br_lt _ _) (fun z => ?_) (fun z => ?_)
      · rw [if_pos z]
        refine rf_G.step (pc' := 106) (st' := [_]) rfl rfl ?_
        refine rf_G.step (pc' := 107) (st' := [_, _]) rfl rfl ?_
        refine rf_G.v1I H rfl (by decide) rfl ⟨Nat.le_of_ble_eq_true rfl, rfl⟩ (Nat.le_of_ble_eq_true rfl) (rc_total r R s p hs2 hp ep) (fun h H => ?_)
        exact rf_G.ret H rfl rfl
      · rw [if_neg z]
        refine rf_G.step (pc' := 97) (st' := [_]) rfl rfl ?_
        refine rf_G.step (pc' := 98) (st' := [_, _]) rfl rfl ?_
        refine rf_G.step (pc' := 99) (st' := [_, _, _]) rfl rfl ?_
        refine rf_G.v2I H rfl (by decide) rfl ⟨Nat.le_of_ble_eq_true rfl, rfl⟩ (Nat.le_of_ble_eq_true rfl) (rc_of r R s 5 hs2 (by decide)) (fun h H => ?_)
        refine rf_G.step (pc' := 110) (st' := [_]) rfl rfl ?_
        exact rf_G.ret H rfl rfl
    | 6, _ =>
      refine rf_G.swI (tgt := 111) (o := 100) rfl (by decide) (by decide) (by decide) ?_
      refine rf_G.step (pc' := 112) (st' := [_]) rfl rfl ?_
      refine rf_G.step (pc' := 113) (st' := [_, _]) rfl rfl ?_
      refine rf_G.step (pc' := 114) (st' := [_, _, _]) rfl rfl ?_
      refine rf_G.v2I H rfl (by decide) rfl ⟨Nat.le_of_ble_eq_true rfl, rfl⟩ (Nat.le_of_ble_eq_true rfl) (rc_of r R s 4 hs2 (by decide)) (fun h H => ?_)
      exact rf_G.ret H rfl rfl
  · refine rf_G.swO (tgt := 118) rfl hw (by decide) ?_
    have e : rf_abt (R.1 0) s p w = -1 := by
      unfold rf_abt
      rw [if_neg (fun q => hw (by rw [q]; decide)), if_neg (fun q => hw (by rw [q]; decide)), if_neg (fun q => hw (by rw [q]; decide)), if_neg (fun q => hw (by rw [q]; decide)), if_neg (fun q => hw (by rw [q]; decide)), if_neg (fun q => hw (by rw [q]; decide)), if_neg (fun q => hw (by rw [q]; decide))]
    rw [e]
    refine rf_G.step (pc' := 119) (st' := [_]) rfl rfl ?_
    exact rf_G.ret H rfl rfl
