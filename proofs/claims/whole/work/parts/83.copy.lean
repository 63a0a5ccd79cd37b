/-! the works: numbers copied -/
section
variable {W : cw} {g : Nat → Option jx_E} {nx s : Nat}
theorem kc_withNumbersOf (hn : 35 ≤ nx) (hf : ∀ a, nx ≤ a → g a = none) {y z : Nat} {X Z : shv} (iy : im_sh g y X) (iz : im_sh g z Z) (i j n : Nat) (hi : i + n ≤ Z.2.1) (hj : j + n ≤ X.2.1) (hX : X.2.1 ≤ 16) (hZ : Z.2.1 ≤ 16) : ∃ g2, jx_T 66 0 (jx_ent 66 [.ref y, .ref z, .int (nI i), .int (nI j), .int (nI n)]) [] (hc W g nx s) (some (.ref (nx + 1))) (hc W g2 (nx + 2) (s + X.2.1 + 2)) ∧ ge g g2 ∧ im_sh g2 (nx + 1) (X.1, X.2.1, rf_put X.2.2 (fun q => Z.2.2 (i + q)) j n) ∧ ∀ a, nx + 2 ≤ a → g2 a = none := by
  have fa := hf nx (Nat.le_refl _)
  have fb := hf (nx + 1) (by omega)
  have l1 : 35 ≤ nx + 1 := Nat.le_trans hn (Nat.le_add_right _ _)
  have u1 : ∀ e, ge g (jx_up g nx e) := fun e => ge.up fa
  have u2 : ∀ e e2, ge (jx_up g nx e) (jx_up (jx_up g nx e) (nx + 1) e2) := fun e e2 => ge.up ((jx_up_ne (by omega)).trans fb)
  obtain ⟨b, h1, h2⟩ := iy
  obtain ⟨c, k1, k2⟩ := iz
  refine ⟨jx_up (jx_up g nx (.inl (0, X.2.1, .inl (rf_put X.2.2 (fun q => Z.2.2 (i + q)) j n)))) (nx + 1) (.inr (8, [.int X.1, .ref nx])), ?_, (u1 _).tr (u2 _ _), ⟨nx, ⟨l1, jx_up_eq⟩, ⟨hn, u2 _ _ _ _ jx_up_eq⟩⟩, fun a ha => (jx_up_ne (by omega)).trans ((jx_up_ne (by omega)).trans (hf a (by omega)))⟩
  have ci := kc_initSheet (W := W) (g := jx_up (jx_up g nx (.inl (0, X.2.1, .inl (rf_put X.2.2 (fun q => Z.2.2 (i + q)) j n)))) (nx + 1) (.inr (8, jx_dfl.getD 8 []))) (nx := nx + 2) (s := s + X.2.1 + 2) (a := nx + 1) l1 jx_up_eq X.1 nx
  rw [jx_up_up] at ci
  have hy2 : 35 ≤ y ∧ jx_up (jx_up g nx (.inl (0, X.2.1, .inl (rf_put X.2.2 (fun q => Z.2.2 (i + q)) j n)))) (nx + 1) (.inr (8, jx_dfl.getD 8 [])) y = some (.inr (8, [.int X.1, .ref b])) := ⟨h1.1, u2 _ _ _ _ (u1 _ _ _ h1.2)⟩
  have loop : ∀ d q, q + d = n → jx_T 66 15 [.ref y, .ref z, .int (nI i), .int (nI j), .int (nI n), .ref nx, .int (nI q)] [] (hc W (jx_up g nx (.inl (0, X.2.1, .inl (rf_put X.2.2 (fun q => Z.2.2 (i + q)) j q)))) (nx + 1) (s + X.2.1)) (some (.ref (nx + 1))) (hc W (jx_up (jx_up g nx (.inl (0, X.2.1, .inl (rf_put X.2.2 (fun q => Z.2.2 (i + q)) j n)))) (nx + 1) (.inr (8, [.int X.1, .ref nx]))) (nx + 2) (s + X.2.1 + 2)) := by
    intro d
    induction d with
    | zero =>
      intro q hq
      obtain rfl : q = n := by omega
      refine jx_T.step (pc' := 17) (st' := [_]) rfl rfl ?_
      refine jx_T.step (pc' := 19) (st' := [_, _]) rfl rfl ?_
      refine cl.bc rfl (jx_br_ge _ _) (fun _ => ?_) (fun zq => absurd (Int32.le_refl _) zq)
      refine cl.newo l1 rfl ?_
      refine jx_T.step (pc' := 70) (st' := [_, _]) rfl rfl ?_
      refine jx_T.step (pc' := 71) (st' := [_, _, _]) rfl rfl ?_
      refine cl.geti (hy2).1 (hy2).2 rfl rfl ?_
      refine jx_T.step (pc' := 76) (st' := [_, _, _, _]) rfl rfl ?_
      refine cl.p2V rfl (by decide) rfl (Nat.le_of_ble_eq_true rfl) (Nat.le_of_ble_eq_true rfl) (ci) ?_
      exact jx_T.ret rfl rfl
    | succ d ih =>
      intro q hq
      have na : 35 ≤ nx ∧ jx_up g nx (.inl (0, X.2.1, .inl (rf_put X.2.2 (fun q => Z.2.2 (i + q)) j q))) nx = some (.inl (0, X.2.1, .inl (rf_put X.2.2 (fun q => Z.2.2 (i + q)) j q))) := ⟨hn, jx_up_eq⟩
      have z1 : 35 ≤ z ∧ jx_up g nx (.inl (0, X.2.1, .inl (rf_put X.2.2 (fun q => Z.2.2 (i + q)) j q))) z = some (.inr (8, [.int Z.1, .ref c])) := ⟨k1.1, u1 _ _ _ k1.2⟩
      have z2 : 35 ≤ c ∧ jx_up g nx (.inl (0, X.2.1, .inl (rf_put X.2.2 (fun q => Z.2.2 (i + q)) j q))) c = some (.inl (0, Z.2.1, .inl Z.2.2)) := ⟨k2.1, u1 _ _ _ k2.2⟩
      have nxt := ih (q + 1) (by omega)
      rw [← rf_put_s] at nxt
      refine jx_T.step (pc' := 17) (st' := [_]) rfl rfl ?_
      refine jx_T.step (pc' := 19) (st' := [_, _]) rfl rfl ?_
      refine cl.bc rfl (jx_br_ge _ _) (fun zq => absurd zq (nI_ge (by omega) (by omega))) (fun _ => ?_)
      refine jx_T.step (pc' := 23) (st' := [_]) rfl rfl ?_
      refine jx_T.step (pc' := 25) (st' := [_, _]) rfl rfl ?_
      refine jx_T.step (pc' := 26) (st' := [_]) rfl rfl ?_
      refine jx_T.step (pc' := 27) (st' := [_, _]) rfl rfl ?_
      refine cl.geti (z1).1 (z1).2 rfl rfl ?_
      refine cl.aleni (z2).1 (z2).2 rfl (Or.inl (by decide)) ?_
      rw [nI_add]
      refine cl.bc rfl (jx_br_ge _ _) (fun zq => absurd zq (nI_ge (by omega) (by omega))) (fun _ => ?_)
      refine jx_T.step (pc' := 35) (st' := [_]) rfl rfl ?_
      refine jx_T.step (pc' := 37) (st' := [_, _]) rfl rfl ?_
      refine jx_T.step (pc' := 38) (st' := [_]) rfl rfl ?_
      refine jx_T.step (pc' := 40) (st' := [_, _]) rfl rfl ?_
      refine cl.aleni (na).1 (na).2 rfl (Or.inl (by decide)) ?_
      rw [nI_add]
      refine cl.bc rfl (jx_br_ge _ _) (fun zq => absurd zq (nI_ge (by omega) (by omega))) (fun _ => ?_)
      refine jx_T.step (pc' := 46) (st' := [_]) rfl rfl ?_
      refine jx_T.step (pc' := 47) (st' := [_, _]) rfl rfl ?_
      refine jx_T.step (pc' := 49) (st' := [_, _, _]) rfl rfl ?_
      refine jx_T.step (pc' := 50) (st' := [_, _]) rfl rfl ?_
      rw [nI_add]
      refine jx_T.step (pc' := 51) (st' := [_, _, _]) rfl rfl ?_
      refine cl.geti (z1).1 (z1).2 rfl rfl ?_
      refine jx_T.step (pc' := 55) (st' := [_, _, _, _]) rfl rfl ?_
      refine jx_T.step (pc' := 57) (st' := [_, _, _, _, _]) rfl rfl ?_
      refine jx_T.step (pc' := 58) (st' := [_, _, _, _]) rfl rfl ?_
      rw [nI_add]
      refine cl.ialdi (z2).1 (z2).2 rfl (rf_ix (by omega) (by omega)) ?_
      rw [nI_clamp (by omega)]
      refine cl.iastn hn rfl (rf_ix (by omega) (by omega)) ?_
      rw [nI_clamp (by omega)]
      refine jx_T.step (pc' := 63) (ls' := [_, _, _, _, _, _, _]) (st' := []) rfl rfl ?_
      refine jx_T.step (pc' := 15) (st' := []) rfl rfl ?_
      rw [nI_1]
      exact nxt
  have na0 : 35 ≤ nx ∧ jx_up g nx (.inl (0, X.2.1, .inl X.2.2)) nx = some (.inl (0, X.2.1, .inl X.2.2)) := ⟨hn, jx_up_eq⟩
  have l0 := loop n 0 (by omega)
  rw [rf_put_0] at l0
  show jx_T 66 0 [.ref y, .ref z, .int (nI i), .int (nI j), .int (nI n), .retAddr 0, .retAddr 0] [] _ _ _
  refine jx_T.step (pc' := 1) (st' := [_]) rfl rfl ?_
  refine cl.geti (h1).1 (h1).2 rfl rfl ?_
  refine cl.clnI hn (h2).1 (h2).2 rfl (Nat.le_of_ble_eq_true rfl) ?_
  refine cl.ccast (na0).1 (na0).2 rfl (by decide) ?_
  refine jx_T.step (pc' := 12) (ls' := [_, _, _, _, _, _, _]) (st' := []) rfl rfl ?_
  refine jx_T.step (pc' := 13) (st' := [_]) rfl rfl ?_
  refine jx_T.step (pc' := 15) (ls' := [_, _, _, _, _, _, _]) (st' := []) rfl rfl ?_
  exact l0
end
