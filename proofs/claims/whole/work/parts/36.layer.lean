/-! the reference's layers and stills -/
/-- the streams as they must stand: spans, of each -/
def rf_ok (N : Nat → Int32) (M : Nat) : Prop := ∀ s, s < M → rf_sp N s ≤ 8 ∧ N (2 + 24 * s + 4) = nI (rf_sp N s)
def rf_la (N : Nat → Int32) (w hi lo : Int32) : Nat → Int64
  | 0 => 0
  | s + 1 => if rf_isb N s w = true ∧ ¬ N (2 + 24 * s) = 1 then rf_la N w hi lo s + (if N (2 + 24 * s + 1) = 1 then rf_bw N s hi lo (rf_sp N s) else -(rf_bw N s hi lo (rf_sp N s))) else rf_la N w hi lo s
theorem rf_isb_t {N : Nat → Int32} {s : Nat} {w : Int32} (h : N (2 + 24 * s) < 3 ∧ (w = 3 ∨ N (2 + 24 * s + 2) = w)) : rf_isb N s w = true := by unfold rf_isb; rw [decide_eq_true_eq]; exact h
theorem rf_isb_f {N : Nat → Int32} {s : Nat} {w : Int32} (h : ¬ (N (2 + 24 * s) < 3 ∧ (w = 3 ∨ N (2 + 24 * s + 2) = w))) : ¬ rf_isb N s w = true := by unfold rf_isb; rw [decide_eq_true_eq]; exact h
theorem rc_layer (r : Nat) (R : rf_R) (w hi lo : Int32) (M : Nat) (hM : M ≤ 12) (eM : R.1 0 0 = nI M) (hok : rf_ok (R.1 0) M) : rf_C 165 r [.ref r, .int w, .int hi, .int lo] R (some (.long (rf_la (R.1 0) w hi lo M))) R := by
  have loop : ∀ (d s : Nat), s + d = M → ∀ h, rf_At r R h → rf_G r 165 6 [.ref r, .int w, .int hi, .int lo, .long (rf_la (R.1 0) w hi lo s), .retAddr 0, .int (nI s)] [] h (some (.long (rf_la (R.1 0) w hi lo M))) R := by
    intro d
    induction d with
    | zero =>
      intro s hs h H
      obtain rfl : s = M := by omega
      refine rf_G.step (pc' := 8) (st' := [_]) rfl rfl ?_
      refine rf_G.step (pc' := 9) (st' := [_, _]) rfl rfl ?_
      refine rf_G.get H rfl rfl ?_
      refine rf_G.step (pc' := 13) (st' := [_, _, _]) rfl rfl ?_
      refine rf_G.iald H 0 1 822 (by decide) rfl (rf_ix (n := 0) (by decide) (by decide)) ?_
      rw [show R.1 0 (Int32.toNatClampNeg 0) = nI s from eM]
      refine rf_G.bc rfl (jx_br_ge _ _) (fun _ => ?_) (fun q => absurd (Int32.le_refl _) q)
      refine rf_G.step (pc' := 82) (st' := [_]) rfl rfl ?_
      exact rf_G.ret H rfl rfl
    | succ d ih =>
      intro s hs h H
      have hs2 : s < 12 := by omega
      have nx := ih (s + 1) (by omega)
      have eq : rf_la (R.1 0) w hi lo (s + 1) = if rf_isb (R.1 0) s w = true ∧ ¬ R.1 0 (2 + 24 * s) = 1 then rf_la (R.1 0) w hi lo s + (if R.1 0 (2 + 24 * s + 1) = 1 then rf_bw (R.1 0) s hi lo (rf_sp (R.1 0) s) else -(rf_bw (R.1 0) s hi lo (rf_sp (R.1 0) s))) else rf_la (R.1 0) w hi lo s := rfl
      rw [eq, ← nI_1] at nx
      have cb := rc_between r R s (rf_sp (R.1 0) s) hs2 (hok s (by omega)).1 (hok s (by omega)).2 hi lo
      refine rf_G.step (pc' := 8) (st' := [_]) rfl rfl ?_
      refine rf_G.step (pc' := 9) (st' := [_, _]) rfl rfl ?_
      refine rf_G.get H rfl rfl ?_
      refine rf_G.step (pc' := 13) (st' := [_, _, _]) rfl rfl ?_
      refine rf_G.iald H 0 1 822 (by decide) rfl (rf_ix (n := 0) (by decide) (by decide)) ?_
      rw [show R.1 0 (Int32.toNatClampNeg 0) = nI M from eM]
      refine rf_G.bc rfl (jx_br_ge _ _) (fun q => absurd q (nI_ge (by omega) (by omega))) (fun _ => ?_)
      refine rf_G.step (pc' := 18) (st' := [_]) rfl rfl ?_
      refine rf_G.step (pc' := 20) (st' := [_, _]) rfl rfl ?_
      refine rf_G.step (pc' := 21) (st' := [_, _, _]) rfl rfl ?_
      refine rf_G.v2I H rfl (by decide) rfl ⟨Nat.le_of_ble_eq_true rfl, rfl⟩ (Nat.le_of_ble_eq_true rfl) (rc_isOf r R s hs2 w) (fun h H => ?_)
      refine rf_G.br rfl (jx_br_eq _ _) (fun z => ?_) (fun z => ?_)
      · rw [if_neg (fun y => rf_isb_f ((rf_o_0 _).mp z) y.1)] at nx
        refine rf_G.step (pc' := 77) (ls' := [_, _, _, _, _, _, _]) (st' := []) rfl rfl ?_
        refine rf_G.step (pc' := 6) (st' := []) rfl rfl ?_
        exact nx h H
      · have z1 := rf_isb_t (Decidable.not_not.mp (fun y => z ((rf_o_0 _).mpr y)))
        refine rf_G.step (pc' := 28) (st' := [_]) rfl rfl ?_
        refine rf_G.step (pc' := 30) (st' := [_, _]) rfl rfl ?_
        refine rf_G.step (pc' := 31) (st' := [_, _, _]) rfl rfl ?_
        refine rf_G.v2I H rfl (by decide) rfl ⟨Nat.le_of_ble_eq_true rfl, rfl⟩ (Nat.le_of_ble_eq_true rfl) (rc_of r R s 0 hs2 (by decide)) (fun h H => ?_)
        refine rf_G.step (pc' := 35) (st' := [_, _]) rfl rfl ?_
        rw [Nat.add_zero]
        refine rf_G.bc rfl (jx_br_eq _ _) (fun y => ?_) (fun y => ?_)
        · rw [if_neg (fun u => u.2 y)] at nx
          refine rf_G.step (pc' := 77) (ls' := [_, _, _, _, _, _, _]) (st' := []) rfl rfl ?_
          refine rf_G.step (pc' := 6) (st' := []) rfl rfl ?_
          exact nx h H
        · rw [if_pos ⟨z1, y⟩] at nx
          refine rf_G.step (pc' := 40) (st' := [_]) rfl rfl ?_
          refine rf_G.step (pc' := 41) (st' := [_, _]) rfl rfl ?_
          refine rf_G.step (pc' := 43) (st' := [_, _, _]) rfl rfl ?_
          refine rf_G.step (pc' := 44) (st' := [_, _, _, _]) rfl rfl ?_
          refine rf_G.v2I H rfl (by decide) rfl ⟨Nat.le_of_ble_eq_true rfl, rfl⟩ (Nat.le_of_ble_eq_true rfl) (rc_of r R s 1 hs2 (by decide)) (fun h H => ?_)
          refine rf_G.step (pc' := 48) (st' := [_, _, _]) rfl rfl ?_
          refine rf_G.bcn rfl (fun u => ?_) (fun u => ?_)
          · rw [if_neg u] at nx
            refine rf_G.step (pc' := 63) (st' := [_, _]) rfl rfl ?_
            refine rf_G.step (pc' := 65) (st' := [_, _, _]) rfl rfl ?_
            refine rf_G.step (pc' := 66) (st' := [_, _, _, _]) rfl rfl ?_
            refine rf_G.step (pc' := 67) (st' := [_, _, _, _, _]) rfl rfl ?_
            refine rf_G.v3I H rfl (by decide) rfl ⟨Nat.le_of_ble_eq_true rfl, rfl⟩ (Nat.le_of_ble_eq_true rfl) (cb) (fun h H => ?_)
            refine rf_G.step (pc' := 71) (st' := [_, _]) rfl rfl ?_
            refine rf_G.step (pc' := 72) (st' := [_]) rfl rfl ?_
            refine rf_G.step (pc' := 74) (ls' := [_, _, _, _, _, _, _]) (st' := []) rfl rfl ?_
            refine rf_G.step (pc' := 77) (ls' := [_, _, _, _, _, _, _]) (st' := []) rfl rfl ?_
            refine rf_G.step (pc' := 6) (st' := []) rfl rfl ?_
            exact nx h H
          · rw [if_pos u] at nx
            refine rf_G.step (pc' := 52) (st' := [_, _]) rfl rfl ?_
            refine rf_G.step (pc' := 54) (st' := [_, _, _]) rfl rfl ?_
            refine rf_G.step (pc' := 55) (st' := [_, _, _, _]) rfl rfl ?_
            refine rf_G.step (pc' := 56) (st' := [_, _, _, _, _]) rfl rfl ?_
            refine rf_G.v3I H rfl (by decide) rfl ⟨Nat.le_of_ble_eq_true rfl, rfl⟩ (Nat.le_of_ble_eq_true rfl) (cb) (fun h H => ?_)
            refine rf_G.step (pc' := 71) (st' := [_, _]) rfl rfl ?_
            refine rf_G.step (pc' := 72) (st' := [_]) rfl rfl ?_
            refine rf_G.step (pc' := 74) (ls' := [_, _, _, _, _, _, _]) (st' := []) rfl rfl ?_
            refine rf_G.step (pc' := 77) (ls' := [_, _, _, _, _, _, _]) (st' := []) rfl rfl ?_
            refine rf_G.step (pc' := 6) (st' := []) rfl rfl ?_
            exact nx h H
  intro h H
  show rf_G r 165 0 [.ref r, .int w, .int hi, .int lo, .retAddr 0, .retAddr 0, .retAddr 0] [] h _ _
  refine rf_G.step (pc' := 1) (st' := [_]) rfl rfl ?_
  refine rf_G.step (pc' := 3) (ls' := [_, _, _, _, _, _, _]) (st' := []) rfl rfl ?_
  refine rf_G.step (pc' := 4) (st' := [_]) rfl rfl ?_
  refine rf_G.step (pc' := 6) (ls' := [_, _, _, _, _, _, _]) (st' := []) rfl rfl ?_
  exact loop M 0 (by omega) h H
