/-! the works: a sheet's numbers -/
section
variable {W : cw} {g : Nat → Option jx_E} {nx s : Nat}
theorem kc_narrowed {y : Nat} {X : shv} (iy : im_sh g y X) (v : Int32) : jx_T 65 0 (jx_ent 65 [.ref y, .int v]) [] (hc W g nx s) (some (.int (rf_nar X.1 v))) (hc W g nx s) := by
  obtain ⟨b, h1, h2⟩ := iy
  show jx_T 65 0 [.ref y, .int v] [] _ _ _
  unfold rf_nar
  refine jx_T.step (pc' := 1) (st' := [_]) rfl rfl ?_
  refine cl.geti (h1).1 (h1).2 rfl rfl ?_
  by_cases z : X.1 = 0
  · rw [if_pos z]
    refine cl.brn rfl (fun zq => absurd (z) zq) (fun _ => ?_)
    refine jx_T.step (pc' := 8) (st' := [_]) rfl rfl ?_
    refine jx_T.step (pc' := 9) (st' := [_]) rfl rfl ?_
    exact jx_T.ret rfl rfl
  · rw [if_neg z]
    refine cl.brn rfl (fun _ => ?_) (fun zq => absurd zq (z))
    refine jx_T.step (pc' := 11) (st' := [_]) rfl rfl ?_
    refine cl.geti (h1).1 (h1).2 rfl rfl ?_
    refine jx_T.step (pc' := 15) (st' := [_, _]) rfl rfl ?_
    by_cases w : X.1 = 1
    · rw [if_pos w]
      refine cl.bcn rfl (fun zq => absurd (w) zq) (fun _ => ?_)
      refine jx_T.step (pc' := 19) (st' := [_]) rfl rfl ?_
      refine jx_T.step (pc' := 20) (st' := [_]) rfl rfl ?_
      refine jx_T.step (pc' := 24) (st' := [_]) rfl rfl ?_
      exact jx_T.ret rfl rfl
    · rw [if_neg w]
      refine cl.bcn rfl (fun _ => ?_) (fun zq => absurd zq (w))
      refine jx_T.step (pc' := 24) (st' := [_]) rfl rfl ?_
      exact jx_T.ret rfl rfl
theorem cl.iastn {a n : Nat} (ha : 35 ≤ a) {f : Nat → Int32} {m pc x y : Nat} {ls st : List Value} {v : Option Value} {h2 : jx_H} {vv : Value} {i w : Int32} (hr : jx_rc m pc = some (.iastore, 1, x, y, vv)) (hi : ¬ (i < 0) ∧ i.toNatClampNeg < n) (k : jx_T m (pc + 1) ls st (hc W (jx_up g a (.inl (0, n, .inl (upd f i.toNatClampNeg w)))) nx s) v h2) : jx_T m pc ls (.int w :: .int i :: .ref a :: st) (hc W (jx_up g a (.inl (0, n, .inl f))) nx s) v h2 := by
  refine jx_T.iast hr (hc_imm ha jx_up_eq) hi ?_
  rw [hc_seto ha, jx_up_up]
  exact k
theorem kc_withNumber (hn : 35 ≤ nx) (hf : ∀ a, nx ≤ a → g a = none) {y : Nat} {X : shv} (iy : im_sh g y X) (i : Nat) (hi : i < X.2.1) (hX : X.2.1 ≤ 16) (w : Int32) : ∃ g2, jx_T 64 0 (jx_ent 64 [.ref y, .int (nI i), .int w]) [] (hc W g nx s) (some (.ref (nx + 1))) (hc W g2 (nx + 2) (s + X.2.1 + 2)) ∧ ge g g2 ∧ im_sh g2 (nx + 1) (X.1, X.2.1, upd X.2.2 i (rf_nar X.1 w)) ∧ ∀ a, nx + 2 ≤ a → g2 a = none := by
  have fa := hf nx (Nat.le_refl _)
  have fb := hf (nx + 1) (by omega)
  have l1 : 35 ≤ nx + 1 := Nat.le_trans hn (Nat.le_add_right _ _)
  have u1 : ∀ e, ge g (jx_up g nx e) := fun e => ge.up fa
  have u2 : ∀ e e2, ge (jx_up g nx e) (jx_up (jx_up g nx e) (nx + 1) e2) := fun e e2 => ge.up ((jx_up_ne (by omega)).trans fb)
  have cw := kc_narrowed (W := W) (nx := nx + 1) (s := s + X.2.1) (iy.ge (u1 (.inl (0, X.2.1, .inl X.2.2)))) w
  obtain ⟨b, h1, h2⟩ := iy
  refine ⟨jx_up (jx_up g nx (.inl (0, X.2.1, .inl (upd X.2.2 i (rf_nar X.1 w))))) (nx + 1) (.inr (8, [.int X.1, .ref nx])), ?_, (u1 _).tr (u2 _ _), ⟨nx, ⟨l1, jx_up_eq⟩, ⟨hn, u2 _ _ _ _ jx_up_eq⟩⟩, fun a ha => (jx_up_ne (by omega)).trans ((jx_up_ne (by omega)).trans (hf a (by omega)))⟩
  have na : 35 ≤ nx ∧ jx_up g nx (.inl (0, X.2.1, .inl X.2.2)) nx = some (.inl (0, X.2.1, .inl X.2.2)) := ⟨hn, jx_up_eq⟩
  have hy1 : 35 ≤ y ∧ jx_up g nx (.inl (0, X.2.1, .inl X.2.2)) y = some (.inr (8, [.int X.1, .ref b])) := ⟨h1.1, u1 _ _ _ h1.2⟩
  have hy2 : 35 ≤ y ∧ jx_up (jx_up g nx (.inl (0, X.2.1, .inl (upd X.2.2 i (rf_nar X.1 w))))) (nx + 1) (.inr (8, jx_dfl.getD 8 [])) y = some (.inr (8, [.int X.1, .ref b])) := ⟨h1.1, u2 _ _ _ _ (u1 _ _ _ h1.2)⟩
  have ci := kc_initSheet (W := W) (g := jx_up (jx_up g nx (.inl (0, X.2.1, .inl (upd X.2.2 i (rf_nar X.1 w))))) (nx + 1) (.inr (8, jx_dfl.getD 8 []))) (nx := nx + 2) (s := s + X.2.1 + 2) (a := nx + 1) l1 jx_up_eq X.1 nx
  rw [jx_up_up] at ci
  show jx_T 64 0 [.ref y, .int (nI i), .int w, .retAddr 0] [] _ _ _
  refine jx_T.step (pc' := 1) (st' := [_]) rfl rfl ?_
  refine cl.geti (h1).1 (h1).2 rfl rfl ?_
  refine cl.clnI hn (h2).1 (h2).2 rfl (Nat.le_of_ble_eq_true rfl) ?_
  refine cl.ccast (na).1 (na).2 rfl (by decide) ?_
  refine jx_T.step (pc' := 11) (ls' := [_, _, _, _]) (st' := []) rfl rfl ?_
  refine jx_T.step (pc' := 12) (st' := [_]) rfl rfl ?_
  refine cl.br rfl (jx_br_lt _ _) (fun zq => absurd zq (nI_pos (by omega))) (fun _ => ?_)
  refine jx_T.step (pc' := 16) (st' := [_]) rfl rfl ?_
  refine jx_T.step (pc' := 17) (st' := [_, _]) rfl rfl ?_
  refine cl.aleni (na).1 (na).2 rfl (Or.inl (by decide)) ?_
  refine cl.bc rfl (jx_br_ge _ _) (fun zq => absurd zq (nI_ge hi (by omega))) (fun _ => ?_)
  refine jx_T.step (pc' := 22) (st' := [_]) rfl rfl ?_
  refine jx_T.step (pc' := 23) (st' := [_, _]) rfl rfl ?_
  refine jx_T.step (pc' := 24) (st' := [_, _, _]) rfl rfl ?_
  refine jx_T.step (pc' := 25) (st' := [_, _, _, _]) rfl rfl ?_
  refine cl.v1I (hc_imm (hy1).1 (hy1).2) rfl (by decide) rfl ⟨Nat.le_of_ble_eq_true rfl, rfl⟩ (Nat.le_of_ble_eq_true rfl) (cw) ?_
  refine cl.iastn hn rfl (rf_ix hi (by omega)) ?_
  rw [nI_clamp (by omega)]
  refine cl.newo l1 rfl ?_
  refine jx_T.step (pc' := 33) (st' := [_, _]) rfl rfl ?_
  refine jx_T.step (pc' := 34) (st' := [_, _, _]) rfl rfl ?_
  refine cl.geti (hy2).1 (hy2).2 rfl rfl ?_
  refine jx_T.step (pc' := 38) (st' := [_, _, _, _]) rfl rfl ?_
  refine cl.p2V rfl (by decide) rfl (Nat.le_of_ble_eq_true rfl) (Nat.le_of_ble_eq_true rfl) (ci) ?_
  exact jx_T.ret rfl rfl
end
