/-! acts, undo, redo of the reference -/
theorem rc_acts_lt (r : Nat) (R : rf_R) (B D : Nat) (hB : B < 201) (hD : D < 200) (e2 : R.2.2.1 2 = nI B) (e3 : R.2.2.1 3 = nI D) : rf_C 137 r [.ref r] R (some (.int 0)) (rf_sA (rf_sI (rf_sI R 4 0) 3 (nI (D + 1))) 1 (rf_put (R.1 1) (R.1 0) (rf_pl B (D + 1)) 822)) := by
  intro h H
  show rf_G r 137 0 [.ref r] [] h _ _
  refine rf_G.step (pc' := 1) (st' := [_]) rfl rfl ?_
  refine rf_G.step (pc' := 2) (st' := [_, _]) rfl rfl ?_
  refine rf_G.putI H rfl rfl (by decide) rfl (fun h H => ?_)
  refine rf_G.step (pc' := 6) (st' := [_]) rfl rfl ?_
  refine rf_G.get H rfl rfl ?_
  rw [show (rf_sI R 4 0).2.2.1 3 = nI D from e3]
  refine rf_G.step (pc' := 12) (st' := [_, _]) rfl rfl ?_
  refine rf_G.bcn rfl (fun _ => ?_) (fun q => absurd ((nI_eq (by omega) (by decide)).mp (show nI D = nI 200 from q)) (by omega))
  refine rf_G.step (pc' := 33) (st' := [_]) rfl rfl ?_
  refine rf_G.step (pc' := 34) (st' := [_, _]) rfl rfl ?_
  refine rf_G.get H rfl rfl ?_
  rw [show (rf_sI R 4 0).2.2.1 3 = nI D from e3]
  refine rf_G.step (pc' := 38) (st' := [_, _, _]) rfl rfl ?_
  refine rf_G.step (pc' := 39) (st' := [_, _]) rfl rfl ?_
  rw [nI_1]
  refine rf_G.putI H rfl rfl (by decide) rfl (fun h H => ?_)
  refine rf_G.step (pc' := 43) (st' := [_]) rfl rfl ?_
  refine rf_G.v0V H rfl (by decide) rfl ⟨Nat.le_of_ble_eq_true rfl, rfl⟩ (Nat.le_of_ble_eq_true rfl) (rc_keeps r (rf_sI (rf_sI R 4 0) 3 (nI (D + 1))) B (D + 1) hB (by omega) e2 rfl) (fun h H => ?_)
  refine rf_G.step (pc' := 47) (st' := [_]) rfl rfl ?_
  exact rf_G.ret H rfl rfl
theorem rc_acts_full (r : Nat) (R : rf_R) (B : Nat) (hB : B < 201) (e2 : R.2.2.1 2 = nI B) (e3 : R.2.2.1 3 = nI 200) : rf_C 137 r [.ref r] R (some (.int 0)) (rf_sA (rf_sI (rf_sI R 4 0) 2 (nI ((B + 1) % 201))) 1 (rf_put (R.1 1) (R.1 0) (rf_pl ((B + 1) % 201) 200) 822)) := by
  intro h H
  show rf_G r 137 0 [.ref r] [] h _ _
  refine rf_G.step (pc' := 1) (st' := [_]) rfl rfl ?_
  refine rf_G.step (pc' := 2) (st' := [_, _]) rfl rfl ?_
  refine rf_G.putI H rfl rfl (by decide) rfl (fun h H => ?_)
  refine rf_G.step (pc' := 6) (st' := [_]) rfl rfl ?_
  refine rf_G.get H rfl rfl ?_
  rw [show (rf_sI R 4 0).2.2.1 3 = nI 200 from e3]
  refine rf_G.step (pc' := 12) (st' := [_, _]) rfl rfl ?_
  refine rf_G.bcn rfl (fun q => absurd rfl q) (fun _ => ?_)
  refine rf_G.step (pc' := 16) (st' := [_]) rfl rfl ?_
  refine rf_G.step (pc' := 17) (st' := [_, _]) rfl rfl ?_
  refine rf_G.get H rfl rfl ?_
  rw [show (rf_sI R 4 0).2.2.1 2 = nI B from e2]
  refine rf_G.step (pc' := 21) (st' := [_, _, _]) rfl rfl ?_
  refine rf_G.step (pc' := 22) (st' := [_, _]) rfl rfl ?_
  refine rf_G.step (pc' := 25) (st' := [_, _, _]) rfl rfl ?_
  refine rf_G.irem rfl (by decide) ?_
  rw [nI_1, rf_lit 201, pk_rem (by omega) (by decide) (by decide)]
  refine rf_G.putI H rfl rfl (by decide) rfl (fun h H => ?_)
  refine rf_G.step (pc' := 42) (st' := []) rfl rfl ?_
  refine rf_G.step (pc' := 43) (st' := [_]) rfl rfl ?_
  refine rf_G.v0V H rfl (by decide) rfl ⟨Nat.le_of_ble_eq_true rfl, rfl⟩ (Nat.le_of_ble_eq_true rfl) (rc_keeps r (rf_sI (rf_sI R 4 0) 2 (nI ((B + 1) % 201))) ((B + 1) % 201) 200 (Nat.mod_lt _ (by decide)) (by decide) rfl e3) (fun h H => ?_)
  refine rf_G.step (pc' := 47) (st' := [_]) rfl rfl ?_
  exact rf_G.ret H rfl rfl
theorem rc_undo_no (r : Nat) (R : rf_R) (e3 : R.2.2.1 3 = nI 0) : rf_C 131 r [.ref r] R (some (.int 7)) R := by
  intro h H
  show rf_G r 131 0 [.ref r] [] h _ _
  refine rf_G.step (pc' := 1) (st' := [_]) rfl rfl ?_
  refine rf_G.get H rfl rfl ?_
  rw [e3]
  refine rf_G.brn rfl (fun q => absurd rfl q) (fun _ => ?_)
  refine rf_G.step (pc' := 9) (st' := [_]) rfl rfl ?_
  exact rf_G.ret H rfl rfl
theorem rc_undo (r : Nat) (R : rf_R) (B D U : Nat) (hB : B < 201) (hD : D + 1 ≤ 200) (hU : U < 2 ^ 30) (e2 : R.2.2.1 2 = nI B) (e3 : R.2.2.1 3 = nI (D + 1)) (e4 : R.2.2.1 4 = nI U) : rf_C 131 r [.ref r] R (some (.int 0)) (rf_sA (rf_sI (rf_sI R 3 (nI D)) 4 (nI (U + 1))) 0 (rf_put (R.1 0) (fun j => R.1 1 (rf_pl B D + j)) 0 822)) := by
  intro h H
  show rf_G r 131 0 [.ref r] [] h _ _
  refine rf_G.step (pc' := 1) (st' := [_]) rfl rfl ?_
  refine rf_G.get H rfl rfl ?_
  rw [e3]
  refine rf_G.brn rfl (fun _ => ?_) (fun q => absurd q (nI_ne0 (by omega) (by omega)))
  refine rf_G.step (pc' := 11) (st' := [_]) rfl rfl ?_
  refine rf_G.step (pc' := 12) (st' := [_, _]) rfl rfl ?_
  refine rf_G.get H rfl rfl ?_
  rw [e3]
  refine rf_G.step (pc' := 16) (st' := [_, _, _]) rfl rfl ?_
  refine rf_G.step (pc' := 17) (st' := [_, _]) rfl rfl ?_
  rw [nI_pred]
  refine rf_G.putI H rfl rfl (by decide) rfl (fun h H => ?_)
  refine rf_G.step (pc' := 21) (st' := [_]) rfl rfl ?_
  refine rf_G.step (pc' := 22) (st' := [_, _]) rfl rfl ?_
  refine rf_G.get H rfl rfl ?_
  rw [show (rf_sI R 3 (nI D)).2.2.1 4 = nI U from e4]
  refine rf_G.step (pc' := 26) (st' := [_, _, _]) rfl rfl ?_
  refine rf_G.step (pc' := 27) (st' := [_, _]) rfl rfl ?_
  rw [nI_1]
  refine rf_G.putI H rfl rfl (by decide) rfl (fun h H => ?_)
  refine rf_G.step (pc' := 31) (st' := [_]) rfl rfl ?_
  refine rf_G.v0V H rfl (by decide) rfl ⟨Nat.le_of_ble_eq_true rfl, rfl⟩ (Nat.le_of_ble_eq_true rfl) (rc_loads r (rf_sI (rf_sI R 3 (nI D)) 4 (nI (U + 1))) B D hB (by omega) e2 rfl) (fun h H => ?_)
  refine rf_G.step (pc' := 35) (st' := [_]) rfl rfl ?_
  exact rf_G.ret H rfl rfl
theorem rc_redo_no (r : Nat) (R : rf_R) (e4 : R.2.2.1 4 = nI 0) : rf_C 133 r [.ref r] R (some (.int 7)) R := by
  intro h H
  show rf_G r 133 0 [.ref r] [] h _ _
  refine rf_G.step (pc' := 1) (st' := [_]) rfl rfl ?_
  refine rf_G.get H rfl rfl ?_
  rw [e4]
  refine rf_G.brn rfl (fun q => absurd rfl q) (fun _ => ?_)
  refine rf_G.step (pc' := 9) (st' := [_]) rfl rfl ?_
  exact rf_G.ret H rfl rfl
theorem rc_redo (r : Nat) (R : rf_R) (B D U : Nat) (hB : B < 201) (hD : D + 1 ≤ 200) (hU : U + 1 < 2 ^ 30) (e2 : R.2.2.1 2 = nI B) (e3 : R.2.2.1 3 = nI D) (e4 : R.2.2.1 4 = nI (U + 1)) : rf_C 133 r [.ref r] R (some (.int 0)) (rf_sA (rf_sI (rf_sI R 3 (nI (D + 1))) 4 (nI U)) 0 (rf_put (R.1 0) (fun j => R.1 1 (rf_pl B (D + 1) + j)) 0 822)) := by
  intro h H
  show rf_G r 133 0 [.ref r] [] h _ _
  refine rf_G.step (pc' := 1) (st' := [_]) rfl rfl ?_
  refine rf_G.get H rfl rfl ?_
  rw [e4]
  refine rf_G.brn rfl (fun _ => ?_) (fun q => absurd q (nI_ne0 (by omega) (by omega)))
  refine rf_G.step (pc' := 11) (st' := [_]) rfl rfl ?_
  refine rf_G.step (pc' := 12) (st' := [_, _]) rfl rfl ?_
  refine rf_G.get H rfl rfl ?_
  rw [e3]
  refine rf_G.step (pc' := 16) (st' := [_, _, _]) rfl rfl ?_
  refine rf_G.step (pc' := 17) (st' := [_, _]) rfl rfl ?_
  rw [nI_1]
  refine rf_G.putI H rfl rfl (by decide) rfl (fun h H => ?_)
  refine rf_G.step (pc' := 21) (st' := [_]) rfl rfl ?_
  refine rf_G.step (pc' := 22) (st' := [_, _]) rfl rfl ?_
  refine rf_G.get H rfl rfl ?_
  rw [show (rf_sI R 3 (nI (D + 1))).2.2.1 4 = nI (U + 1) from e4]
  refine rf_G.step (pc' := 26) (st' := [_, _, _]) rfl rfl ?_
  refine rf_G.step (pc' := 27) (st' := [_, _]) rfl rfl ?_
  rw [nI_pred]
  refine rf_G.putI H rfl rfl (by decide) rfl (fun h H => ?_)
  refine rf_G.step (pc' := 31) (st' := [_]) rfl rfl ?_
  refine rf_G.v0V H rfl (by decide) rfl ⟨Nat.le_of_ble_eq_true rfl, rfl⟩ (Nat.le_of_ble_eq_true rfl) (rc_loads r (rf_sI (rf_sI R 3 (nI (D + 1))) 4 (nI U)) B (D + 1) hB (by omega) e2 rfl) (fun h H => ?_)
  refine rf_G.step (pc' := 35) (st' := [_]) rfl rfl ?_
  exact rf_G.ret H rfl rfl
