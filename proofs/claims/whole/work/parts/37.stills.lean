/-! the reference's stills -/
def rf_st (N : Nat → Int32) (w a : Int32) : Nat → Int64
  | 0 => 0
  | s + 1 => if rf_isb N s w = true ∧ N (2 + 24 * s) = 1 ∧ rf_lvl N s (N (2 + 24 * s + 3)) = a then rf_st N w a s + (if N (2 + 24 * s + 1) = 1 then (N (2 + 24 * s + 5)).toInt64 else (-(N (2 + 24 * s + 5))).toInt64) else rf_st N w a s
def rf_se (f : Nat → Int32) (g : Nat → Int64) (a : Int32) (n : Int64) : Nat → Int64
  | 0 => n
  | k + 1 => rf_se f g a n k + (if f k = a then g k else 0)
theorem rc_stills (r : Nat) (R : rf_R) (w a : Int32) (M E : Nat) (hM : M ≤ 12) (hE : E ≤ 2) (eM : R.1 0 0 = nI M) (eE : R.2.2.1 6 = nI E) : rf_C 167 r [.ref r, .int w, .int a] R (some (.long (rf_se (R.1 7) (R.2.1 8) a (rf_st (R.1 0) w a M) E))) R := by
  have loop2 : ∀ (d k : Nat), k + d = E → ∀ h, rf_At r R h → rf_G r 167 97 [.ref r, .int w, .int a, .long (rf_se (R.1 7) (R.2.1 8) a (rf_st (R.1 0) w a M) k), .retAddr 0, .int (nI k)] [] h (some (.long (rf_se (R.1 7) (R.2.1 8) a (rf_st (R.1 0) w a M) E))) R := by
    intro d
    induction d with
    | zero =>
      intro k hk h H
      obtain rfl : k = E := by omega
      refine rf_G.step (pc' := 99) (st' := [_]) rfl rfl ?_
      refine rf_G.step (pc' := 100) (st' := [_, _]) rfl rfl ?_
      refine rf_G.get H rfl rfl ?_
      rw [eE]
      refine rf_G.bc rfl (jx_br_ge _ _) (fun _ => ?_) (fun q => absurd (Int32.le_refl _) q)
      refine rf_G.step (pc' := 138) (st' := [_]) rfl rfl ?_
      exact rf_G.ret H rfl rfl
    | succ d ih =>
      intro k hk h H
      have nx := ih (k + 1) (by omega)
      have eq : rf_se (R.1 7) (R.2.1 8) a (rf_st (R.1 0) w a M) (k + 1) = rf_se (R.1 7) (R.2.1 8) a (rf_st (R.1 0) w a M) k + (if R.1 7 k = a then R.2.1 8 k else 0) := rfl
      rw [eq, ← nI_1] at nx
      refine rf_G.step (pc' := 99) (st' := [_]) rfl rfl ?_
      refine rf_G.step (pc' := 100) (st' := [_, _]) rfl rfl ?_
      refine rf_G.get H rfl rfl ?_
      rw [eE]
      refine rf_G.bc rfl (jx_br_ge _ _) (fun q => absurd q (nI_ge (by omega) (by omega))) (fun _ => ?_)
      refine rf_G.step (pc' := 107) (st' := [_]) rfl rfl ?_
      refine rf_G.step (pc' := 108) (st' := [_, _]) rfl rfl ?_
      refine rf_G.get H rfl rfl ?_
      refine rf_G.step (pc' := 113) (st' := [_, _, _]) rfl rfl ?_
      refine rf_G.iald H 7 4 2 (by decide) rfl (rf_ix (by omega) (by decide)) ?_
      refine rf_G.step (pc' := 115) (st' := [_, _, _]) rfl rfl ?_
      rw [nI_clamp (by omega)]
      refine rf_G.bcn rfl (fun q => ?_) (fun q => ?_)
      · rw [if_neg q] at nx
        refine rf_G.step (pc' := 129) (st' := [_, _]) rfl rfl ?_
        refine rf_G.step (pc' := 130) (st' := [_]) rfl rfl ?_
        refine rf_G.step (pc' := 131) (ls' := [_, _, _, _, _, _]) (st' := []) rfl rfl ?_
        refine rf_G.step (pc' := 134) (ls' := [_, _, _, _, _, _]) (st' := []) rfl rfl ?_
        refine rf_G.step (pc' := 97) (st' := []) rfl rfl ?_
        exact nx h H
      · rw [if_pos q] at nx
        refine rf_G.step (pc' := 119) (st' := [_, _]) rfl rfl ?_
        refine rf_G.get H rfl rfl ?_
        refine rf_G.step (pc' := 124) (st' := [_, _, _]) rfl rfl ?_
        refine rf_G.lald H 8 5 2 (by decide) rfl (rf_ix (by omega) (by decide)) ?_
        rw [nI_clamp (by omega)]
        refine rf_G.step (pc' := 129) (st' := [_, _]) rfl rfl ?_
        refine rf_G.step (pc' := 130) (st' := [_]) rfl rfl ?_
        refine rf_G.step (pc' := 131) (ls' := [_, _, _, _, _, _]) (st' := []) rfl rfl ?_
        refine rf_G.step (pc' := 134) (ls' := [_, _, _, _, _, _]) (st' := []) rfl rfl ?_
        refine rf_G.step (pc' := 97) (st' := []) rfl rfl ?_
        exact nx h H
  have loop : ∀ (d s : Nat), s + d = M → ∀ h, rf_At r R h → rf_G r 167 5 [.ref r, .int w, .int a, .long (rf_st (R.1 0) w a s), .retAddr 0, .int (nI s)] [] h (some (.long (rf_se (R.1 7) (R.2.1 8) a (rf_st (R.1 0) w a M) E))) R := by
    intro d
    induction d with
    | zero =>
      intro s hs h H
      obtain rfl : s = M := by omega
      refine rf_G.step (pc' := 7) (st' := [_]) rfl rfl ?_
      refine rf_G.step (pc' := 8) (st' := [_, _]) rfl rfl ?_
      refine rf_G.get H rfl rfl ?_
      refine rf_G.step (pc' := 12) (st' := [_, _, _]) rfl rfl ?_
      refine rf_G.iald H 0 1 822 (by decide) rfl (rf_ix (n := 0) (by decide) (by decide)) ?_
      rw [show R.1 0 (Int32.toNatClampNeg 0) = nI s from eM]
      refine rf_G.bc rfl (jx_br_ge _ _) (fun _ => ?_) (fun q => absurd (Int32.le_refl _) q)
      refine rf_G.step (pc' := 95) (st' := [_]) rfl rfl ?_
      refine rf_G.step (pc' := 97) (ls' := [_, _, _, _, _, _]) (st' := []) rfl rfl ?_
      exact loop2 E 0 (by omega) h H
    | succ d ih =>
      intro s hs h H
      have hs2 : s < 12 := by omega
      have nx := ih (s + 1) (by omega)
      have eq : rf_st (R.1 0) w a (s + 1) = if rf_isb (R.1 0) s w = true ∧ R.1 0 (2 + 24 * s) = 1 ∧ rf_lvl (R.1 0) s (R.1 0 (2 + 24 * s + 3)) = a then rf_st (R.1 0) w a s + (if R.1 0 (2 + 24 * s + 1) = 1 then (R.1 0 (2 + 24 * s + 5)).toInt64 else (-(R.1 0 (2 + 24 * s + 5))).toInt64) else rf_st (R.1 0) w a s := rfl
      rw [eq, ← nI_1] at nx
      refine rf_G.step (pc' := 7) (st' := [_]) rfl rfl ?_
      refine rf_G.step (pc' := 8) (st' := [_, _]) rfl rfl ?_
      refine rf_G.get H rfl rfl ?_
      refine rf_G.step (pc' := 12) (st' := [_, _, _]) rfl rfl ?_
      refine rf_G.iald H 0 1 822 (by decide) rfl (rf_ix (n := 0) (by decide) (by decide)) ?_
      rw [show R.1 0 (Int32.toNatClampNeg 0) = nI M from eM]
      refine rf_G.bc rfl (jx_br_ge _ _) (fun q => absurd q (nI_ge (by omega) (by omega))) (fun _ => ?_)
      refine rf_G.step (pc' := 17) (st' := [_]) rfl rfl ?_
      refine rf_G.step (pc' := 19) (st' := [_, _]) rfl rfl ?_
      refine rf_G.step (pc' := 20) (st' := [_, _, _]) rfl rfl ?_
      refine rf_G.v2I H rfl (by decide) rfl ⟨Nat.le_of_ble_eq_true rfl, rfl⟩ (Nat.le_of_ble_eq_true rfl) (rc_isOf r R s hs2 w) (fun h H => ?_)
      refine rf_G.br rfl (jx_br_eq _ _) (fun z => ?_) (fun z => ?_)
      · rw [if_neg (fun y => rf_isb_f ((rf_o_0 _).mp z) y.1)] at nx
        refine rf_G.step (pc' := 91) (ls' := [_, _, _, _, _, _]) (st' := []) rfl rfl ?_
        refine rf_G.step (pc' := 5) (st' := []) rfl rfl ?_
        exact nx h H
      · have z1 := rf_isb_t (Decidable.not_not.mp (fun y => z ((rf_o_0 _).mpr y)))
        refine rf_G.step (pc' := 27) (st' := [_]) rfl rfl ?_
        refine rf_G.step (pc' := 29) (st' := [_, _]) rfl rfl ?_
        refine rf_G.step (pc' := 30) (st' := [_, _, _]) rfl rfl ?_
        refine rf_G.v2I H rfl (by decide) rfl ⟨Nat.le_of_ble_eq_true rfl, rfl⟩ (Nat.le_of_ble_eq_true rfl) (rc_of r R s 0 hs2 (by decide)) (fun h H => ?_)
        refine rf_G.step (pc' := 34) (st' := [_, _]) rfl rfl ?_
        rw [Nat.add_zero]
        refine rf_G.bcn rfl (fun y => ?_) (fun y => ?_)
        · rw [if_neg (fun u => y u.2.1)] at nx
          refine rf_G.step (pc' := 91) (ls' := [_, _, _, _, _, _]) (st' := []) rfl rfl ?_
          refine rf_G.step (pc' := 5) (st' := []) rfl rfl ?_
          exact nx h H
        · have cl := rc_levelAt r R s hs2 (R.1 0 (2 + 24 * s + 3))
          refine rf_G.step (pc' := 38) (st' := [_]) rfl rfl ?_
          refine rf_G.step (pc' := 40) (st' := [_, _]) rfl rfl ?_
          refine rf_G.step (pc' := 41) (st' := [_, _, _]) rfl rfl ?_
          refine rf_G.step (pc' := 43) (st' := [_, _, _, _]) rfl rfl ?_
          refine rf_G.step (pc' := 44) (st' := [_, _, _, _, _]) rfl rfl ?_
          refine rf_G.v2I H rfl (by decide) rfl ⟨Nat.le_of_ble_eq_true rfl, rfl⟩ (Nat.le_of_ble_eq_true rfl) (rc_of r R s 3 hs2 (by decide)) (fun h H => ?_)
          refine rf_G.v2I H rfl (by decide) rfl ⟨Nat.le_of_ble_eq_true rfl, rfl⟩ (Nat.le_of_ble_eq_true rfl) (cl) (fun h H => ?_)
          refine rf_G.step (pc' := 51) (st' := [_, _]) rfl rfl ?_
          refine rf_G.bcn rfl (fun u => ?_) (fun u => ?_)
          · rw [if_neg (fun t => u t.2.2)] at nx
            refine rf_G.step (pc' := 91) (ls' := [_, _, _, _, _, _]) (st' := []) rfl rfl ?_
            refine rf_G.step (pc' := 5) (st' := []) rfl rfl ?_
            exact nx h H
          · rw [if_pos ⟨z1, y, u⟩] at nx
            refine rf_G.step (pc' := 55) (st' := [_]) rfl rfl ?_
            refine rf_G.step (pc' := 56) (st' := [_, _]) rfl rfl ?_
            refine rf_G.step (pc' := 58) (st' := [_, _, _]) rfl rfl ?_
            refine rf_G.step (pc' := 59) (st' := [_, _, _, _]) rfl rfl ?_
            refine rf_G.v2I H rfl (by decide) rfl ⟨Nat.le_of_ble_eq_true rfl, rfl⟩ (Nat.le_of_ble_eq_true rfl) (rc_of r R s 1 hs2 (by decide)) (fun h H => ?_)
            refine rf_G.step (pc' := 63) (st' := [_, _, _]) rfl rfl ?_
            refine rf_G.bcn rfl (fun t => ?_) (fun t => ?_)
            · rw [if_neg t] at nx
              refine rf_G.step (pc' := 78) (st' := [_, _]) rfl rfl ?_
              refine rf_G.step (pc' := 80) (st' := [_, _, _]) rfl rfl ?_
              refine rf_G.step (pc' := 81) (st' := [_, _, _, _]) rfl rfl ?_
              refine rf_G.v2I H rfl (by decide) rfl ⟨Nat.le_of_ble_eq_true rfl, rfl⟩ (Nat.le_of_ble_eq_true rfl) (rc_of r R s 5 hs2 (by decide)) (fun h H => ?_)
              refine rf_G.step (pc' := 85) (st' := [_, _]) rfl rfl ?_
              refine rf_G.step (pc' := 86) (st' := [_, _]) rfl rfl ?_
              refine rf_G.step (pc' := 87) (st' := [_]) rfl rfl ?_
              refine rf_G.step (pc' := 88) (ls' := [_, _, _, _, _, _]) (st' := []) rfl rfl ?_
              refine rf_G.step (pc' := 91) (ls' := [_, _, _, _, _, _]) (st' := []) rfl rfl ?_
              refine rf_G.step (pc' := 5) (st' := []) rfl rfl ?_
              exact nx h H
            · rw [if_pos t] at nx
              refine rf_G.step (pc' := 67) (st' := [_, _]) rfl rfl ?_
              refine rf_G.step (pc' := 69) (st' := [_, _, _]) rfl rfl ?_
              refine rf_G.step (pc' := 70) (st' := [_, _, _, _]) rfl rfl ?_
              refine rf_G.v2I H rfl (by decide) rfl ⟨Nat.le_of_ble_eq_true rfl, rfl⟩ (Nat.le_of_ble_eq_true rfl) (rc_of r R s 5 hs2 (by decide)) (fun h H => ?_)
              refine rf_G.step (pc' := 74) (st' := [_, _]) rfl rfl ?_
              refine rf_G.step (pc' := 86) (st' := [_, _]) rfl rfl ?_
              refine rf_G.step (pc' := 87) (st' := [_]) rfl rfl ?_
              refine rf_G.step (pc' := 88) (ls' := [_, _, _, _, _, _]) (st' := []) rfl rfl ?_
              refine rf_G.step (pc' := 91) (ls' := [_, _, _, _, _, _]) (st' := []) rfl rfl ?_
              refine rf_G.step (pc' := 5) (st' := []) rfl rfl ?_
              exact nx h H
  intro h H
  show rf_G r 167 0 [.ref r, .int w, .int a, .retAddr 0, .retAddr 0, .retAddr 0] [] h _ _
  refine rf_G.step (pc' := 1) (st' := [_]) rfl rfl ?_
  refine rf_G.step (pc' := 2) (ls' := [_, _, _, _, _, _]) (st' := []) rfl rfl ?_
  refine rf_G.step (pc' := 3) (st' := [_]) rfl rfl ?_
  refine rf_G.step (pc' := 5) (ls' := [_, _, _, _, _, _]) (st' := []) rfl rfl ?_
  exact loop M 0 (by omega) h H
