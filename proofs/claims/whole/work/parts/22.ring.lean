/-! the reference's ring: keeps, loads, acts, undo, redo -/
/-- g's first n places laid into f from a on -/
def rf_put (f g : Nat → Int32) (a n : Nat) : Nat → Int32 := fun j => if a ≤ j ∧ j < a + n then g (j - a) else f j
theorem rf_put_0 (f g : Nat → Int32) (a : Nat) : rf_put f g a 0 = f := by
  funext j
  unfold rf_put
  rw [if_neg (by omega)]
theorem rf_put_s (f g : Nat → Int32) (a n : Nat) : upd (rf_put f g a n) (a + n) (g n) = rf_put f g a (n + 1) := by
  funext j
  unfold upd rf_put
  by_cases h : j = a + n
  · subst h
    rw [if_pos rfl, if_pos (by omega)]
    congr 1
    omega
  · rw [if_neg h]
    by_cases h2 : a ≤ j ∧ j < a + n
    · rw [if_pos h2, if_pos (by omega)]
    · rw [if_neg h2, if_neg (by omega)]
theorem rf_sA_sA (R : rf_R) (k : Nat) (f g : Nat → Int32) : rf_sA (rf_sA R k f) k g = rf_sA R k g := by
  unfold rf_sA
  simp only [Prod.mk.injEq, and_self, and_true]
  funext j
  by_cases h : j = k <;> simp [h]
theorem rf_sA_id (R : rf_R) (k : Nat) : rf_sA R k (R.1 k) = R := by
  unfold rf_sA
  obtain ⟨a, b, c, d⟩ := R
  simp only [Prod.mk.injEq, and_self, and_true]
  funext j
  by_cases h : j = k
  · subst h; simp
  · simp [h]
/-- the place of the state that stands now in the ring -/
def rf_pl (B D : Nat) : Nat := (B + D) % 201 * 822
theorem rf_pl_lt (B D : Nat) : rf_pl B D + 822 ≤ 165222 := by
  unfold rf_pl
  have := Nat.mod_lt (B + D) (show 0 < 201 by decide)
  omega
theorem rf_at (B D : Nat) (hB : B < 201) (hD : D ≤ 200) : ((nI B + nI D) - (nI B + nI D) / 201 * 201) * 822 = nI (rf_pl B D) := by
  rw [rf_lit 201, rf_lit 822, nI_add, pk_rem (by omega) (by decide) (by decide), pk_mul]
  rfl
theorem rc_keeps (r : Nat) (R : rf_R) (B D : Nat) (hB : B < 201) (hD : D ≤ 200) (e2 : R.2.2.1 2 = nI B) (e3 : R.2.2.1 3 = nI D) : rf_C 130 r [.ref r] R none (rf_sA R 1 (rf_put (R.1 1) (R.1 0) (rf_pl B D) 822)) := by
  have hp := rf_pl_lt B D
  have loop : ∀ (d k : Nat), k + d = 822 → ∀ h, rf_At r (rf_sA R 1 (rf_put (R.1 1) (R.1 0) (rf_pl B D) k)) h → rf_G r 130 20 [.ref r, .int (nI (rf_pl B D)), .int (nI k)] [] h none (rf_sA R 1 (rf_put (R.1 1) (R.1 0) (rf_pl B D) 822)) := by
    intro d
    induction d with
    | zero =>
      intro k hk h H
      obtain rfl : k = 822 := by omega
      refine rf_G.step (pc' := 21) (st' := [_]) rfl rfl ?_
      refine rf_G.step (pc' := 24) (st' := [_, _]) rfl rfl ?_
      refine rf_G.bc rfl (jx_br_ge _ _) (fun _ => ?_) (fun q => absurd (Int32.le_refl _) q)
      exact rf_G.ret H rfl rfl
    | succ d ih =>
      intro k hk h H
      refine rf_G.step (pc' := 21) (st' := [_]) rfl rfl ?_
      refine rf_G.step (pc' := 24) (st' := [_, _]) rfl rfl ?_
      refine rf_G.bc rfl (jx_br_ge _ _) (fun q => absurd q (by rw [rf_lit 822]; exact nI_ge (by omega) (by decide))) (fun _ => ?_)
      refine rf_G.step (pc' := 28) (st' := [_]) rfl rfl ?_
      refine rf_G.get H rfl rfl ?_
      refine rf_G.step (pc' := 32) (st' := [_, _]) rfl rfl ?_
      refine rf_G.step (pc' := 33) (st' := [_, _, _]) rfl rfl ?_
      refine rf_G.step (pc' := 34) (st' := [_, _]) rfl rfl ?_
      rw [nI_add]
      refine rf_G.step (pc' := 35) (st' := [_, _, _]) rfl rfl ?_
      refine rf_G.get H rfl rfl ?_
      refine rf_G.step (pc' := 39) (st' := [_, _, _, _]) rfl rfl ?_
      refine rf_G.iald H 0 1 822 (by decide) rfl (rf_ix (by omega) (by decide)) ?_
      rw [nI_clamp (n := k) (by omega)]
      refine rf_G.iast H 1 2 165222 (by decide) rfl (rf_ix (by omega) (by decide)) (fun h H => ?_)
      rw [nI_clamp (by omega), rf_sA_sA] at H
      have e : upd ((rf_sA R 1 (rf_put (R.1 1) (R.1 0) (rf_pl B D) k)).1 1) (rf_pl B D + k) ((rf_sA R 1 (rf_put (R.1 1) (R.1 0) (rf_pl B D) k)).1 0 k) = rf_put (R.1 1) (R.1 0) (rf_pl B D) (k + 1) := rf_put_s _ _ _ _
      rw [e] at H
      refine rf_G.step (pc' := 44) (ls' := [_, _, _]) (st' := []) rfl rfl ?_
      refine rf_G.step (pc' := 20) (st' := []) rfl rfl ?_
      show rf_G r 130 20 [.ref r, .int (nI (rf_pl B D)), .int (nI k + 1)] [] h none _
      rw [nI_1]
      exact ih (k + 1) (by omega) h H
  intro h H
  show rf_G r 130 0 [.ref r, .retAddr 0, .retAddr 0] [] h _ _
  refine rf_G.step (pc' := 1) (st' := [_]) rfl rfl ?_
  refine rf_G.get H rfl rfl ?_
  refine rf_G.step (pc' := 5) (st' := [_, _]) rfl rfl ?_
  refine rf_G.get H rfl rfl ?_
  refine rf_G.step (pc' := 9) (st' := [_]) rfl rfl ?_
  refine rf_G.step (pc' := 12) (st' := [_, _]) rfl rfl ?_
  rw [e2, e3]
  refine rf_G.irem rfl (by decide) ?_
  refine rf_G.step (pc' := 16) (st' := [_, _]) rfl rfl ?_
  refine rf_G.step (pc' := 17) (st' := [_]) rfl rfl ?_
  rw [rf_at B D hB hD]
  refine rf_G.step (pc' := 18) (ls' := [_, _, _]) (st' := []) rfl rfl ?_
  refine rf_G.step (pc' := 19) (st' := [_]) rfl rfl ?_
  refine rf_G.step (pc' := 20) (ls' := [_, _, _]) (st' := []) rfl rfl ?_
  have H0 : rf_At r (rf_sA R 1 (rf_put (R.1 1) (R.1 0) (rf_pl B D) 0)) h := by rw [rf_put_0, rf_sA_id]; exact H
  exact loop 822 0 (by decide) h H0
theorem rc_loads (r : Nat) (R : rf_R) (B D : Nat) (hB : B < 201) (hD : D ≤ 200) (e2 : R.2.2.1 2 = nI B) (e3 : R.2.2.1 3 = nI D) : rf_C 132 r [.ref r] R none (rf_sA R 0 (rf_put (R.1 0) (fun j => R.1 1 (rf_pl B D + j)) 0 822)) := by
  have hp := rf_pl_lt B D
  have loop : ∀ (d k : Nat), k + d = 822 → ∀ h, rf_At r (rf_sA R 0 (rf_put (R.1 0) (fun j => R.1 1 (rf_pl B D + j)) 0 k)) h → rf_G r 132 20 [.ref r, .int (nI (rf_pl B D)), .int (nI k)] [] h none (rf_sA R 0 (rf_put (R.1 0) (fun j => R.1 1 (rf_pl B D + j)) 0 822)) := by
    intro d
    induction d with
    | zero =>
      intro k hk h H
      obtain rfl : k = 822 := by omega
      refine rf_G.step (pc' := 21) (st' := [_]) rfl rfl ?_
      refine rf_G.step (pc' := 24) (st' := [_, _]) rfl rfl ?_
      refine rf_G.bc rfl (jx_br_ge _ _) (fun _ => ?_) (fun q => absurd (Int32.le_refl _) q)
      exact rf_G.ret H rfl rfl
    | succ d ih =>
      intro k hk h H
      refine rf_G.step (pc' := 21) (st' := [_]) rfl rfl ?_
      refine rf_G.step (pc' := 24) (st' := [_, _]) rfl rfl ?_
      refine rf_G.bc rfl (jx_br_ge _ _) (fun q => absurd q (by rw [rf_lit 822]; exact nI_ge (by omega) (by decide))) (fun _ => ?_)
      refine rf_G.step (pc' := 28) (st' := [_]) rfl rfl ?_
      refine rf_G.get H rfl rfl ?_
      refine rf_G.step (pc' := 32) (st' := [_, _]) rfl rfl ?_
      refine rf_G.step (pc' := 33) (st' := [_, _, _]) rfl rfl ?_
      refine rf_G.get H rfl rfl ?_
      refine rf_G.step (pc' := 37) (st' := [_, _, _, _]) rfl rfl ?_
      refine rf_G.step (pc' := 38) (st' := [_, _, _, _, _]) rfl rfl ?_
      refine rf_G.step (pc' := 39) (st' := [_, _, _, _]) rfl rfl ?_
      rw [nI_add]
      refine rf_G.iald H 1 2 165222 (by decide) rfl (rf_ix (by omega) (by decide)) ?_
      rw [nI_clamp (by omega)]
      refine rf_G.iast H 0 1 822 (by decide) rfl (rf_ix (by omega) (by decide)) (fun h H => ?_)
      rw [nI_clamp (by omega), rf_sA_sA] at H
      have e : upd ((rf_sA R 0 (rf_put (R.1 0) (fun j => R.1 1 (rf_pl B D + j)) 0 k)).1 0) k ((rf_sA R 0 (rf_put (R.1 0) (fun j => R.1 1 (rf_pl B D + j)) 0 k)).1 1 (rf_pl B D + k)) = rf_put (R.1 0) (fun j => R.1 1 (rf_pl B D + j)) 0 (k + 1) := by
        have := rf_put_s (R.1 0) (fun j => R.1 1 (rf_pl B D + j)) 0 k
        rw [Nat.zero_add] at this
        exact this
      rw [e] at H
      refine rf_G.step (pc' := 44) (ls' := [_, _, _]) (st' := []) rfl rfl ?_
      refine rf_G.step (pc' := 20) (st' := []) rfl rfl ?_
      show rf_G r 132 20 [.ref r, .int (nI (rf_pl B D)), .int (nI k + 1)] [] h none _
      rw [nI_1]
      exact ih (k + 1) (by omega) h H
  intro h H
  show rf_G r 132 0 [.ref r, .retAddr 0, .retAddr 0] [] h _ _
  refine rf_G.step (pc' := 1) (st' := [_]) rfl rfl ?_
  refine rf_G.get H rfl rfl ?_
  refine rf_G.step (pc' := 5) (st' := [_, _]) rfl rfl ?_
  refine rf_G.get H rfl rfl ?_
  refine rf_G.step (pc' := 9) (st' := [_]) rfl rfl ?_
  refine rf_G.step (pc' := 12) (st' := [_, _]) rfl rfl ?_
  rw [e2, e3]
  refine rf_G.irem rfl (by decide) ?_
  refine rf_G.step (pc' := 16) (st' := [_, _]) rfl rfl ?_
  refine rf_G.step (pc' := 17) (st' := [_]) rfl rfl ?_
  rw [rf_at B D hB hD]
  refine rf_G.step (pc' := 18) (ls' := [_, _, _]) (st' := []) rfl rfl ?_
  refine rf_G.step (pc' := 19) (st' := [_]) rfl rfl ?_
  refine rf_G.step (pc' := 20) (ls' := [_, _, _]) (st' := []) rfl rfl ?_
  have H0 : rf_At r (rf_sA R 0 (rf_put (R.1 0) (fun j => R.1 1 (rf_pl B D + j)) 0 0)) h := by rw [rf_put_0, rf_sA_id]; exact H
  exact loop 822 0 (by decide) h H0
