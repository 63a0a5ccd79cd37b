/-! the works: copy's refusals -/
section
variable {W : cw} {g : Nat → Option jx_E} {x : Nat} {T : tv} {nx s : Nat}
theorem kc_copy_1 (k i o j n : Int32) (hb : ¬ ((0 ≤ k.toInt ∧ k.toInt ≤ 7) ∧ (0 ≤ o.toInt ∧ o.toInt ≤ 7))) : jx_T 95 0 (jx_ent 95 [.ref 1, .int k, .int i, .int o, .int j, .int n]) [] (hc W g nx s) (some (.int 1)) (hc W g nx s) := by
  show jx_T 95 0 [.ref 1, .int k, .int i, .int o, .int j, .int n, .retAddr 0, .retAddr 0] [] _ _ _
  refine jx_T.step (pc' := 1) (st' := [_]) rfl rfl ?_
  refine jx_T.step (pc' := 2) (st' := [_, _]) rfl rfl ?_
  refine jx_T.step (pc' := 4) (st' := [_, _, _]) rfl rfl ?_
  refine cl.s3I rfl (by decide) rfl (Nat.le_of_ble_eq_true rfl) (Nat.le_of_ble_eq_true rfl) (kc_within _ _ _ _) ?_
  refine cl.br rfl (jx_br_eq _ _) (fun z => ?_) (fun z => ?_)
  · refine jx_T.step (pc' := 21) (st' := [_]) rfl rfl ?_
    exact jx_T.ret rfl rfl
  · have z1 := Decidable.not_not.mp (fun y => z ((rf_o_0 _).mpr y))
    refine jx_T.step (pc' := 11) (st' := [_]) rfl rfl ?_
    refine jx_T.step (pc' := 12) (st' := [_, _]) rfl rfl ?_
    refine jx_T.step (pc' := 14) (st' := [_, _, _]) rfl rfl ?_
    refine cl.s3I rfl (by decide) rfl (Nat.le_of_ble_eq_true rfl) (Nat.le_of_ble_eq_true rfl) (kc_within _ _ _ _) ?_
    refine cl.brn rfl (fun zq => absurd ((rf_o_0 _).mpr (fun t => hb ⟨z1, t⟩)) zq) (fun _ => ?_)
    refine jx_T.step (pc' := 21) (st' := [_]) rfl rfl ?_
    exact jx_T.ret rfl rfl
theorem kc_copy_3 (k o : Nat) (hk : k < 8) (ho : o < 8) (i j n : Int32) (hb : n < 0 ∨ i < 0 ∨ j < 0) : jx_T 95 0 (jx_ent 95 [.ref 1, .int (nI k), .int i, .int (nI o), .int j, .int n]) [] (hc W g nx s) (some (.int 3)) (hc W g nx s) := by
  show jx_T 95 0 [.ref 1, .int (nI k), .int i, .int (nI o), .int j, .int n, .retAddr 0, .retAddr 0] [] _ _ _
  refine jx_T.step (pc' := 1) (st' := [_]) rfl rfl ?_
  refine jx_T.step (pc' := 2) (st' := [_, _]) rfl rfl ?_
  refine jx_T.step (pc' := 4) (st' := [_, _, _]) rfl rfl ?_
  refine cl.s3I rfl (by decide) rfl (Nat.le_of_ble_eq_true rfl) (Nat.le_of_ble_eq_true rfl) (kc_within _ _ _ _) ?_
  refine cl.br rfl (jx_br_eq _ _) (fun zq => absurd zq (fun q => (rf_o_0 _).mp q (rf_k8 hk))) (fun _ => ?_)
  refine jx_T.step (pc' := 11) (st' := [_]) rfl rfl ?_
  refine jx_T.step (pc' := 12) (st' := [_, _]) rfl rfl ?_
  refine jx_T.step (pc' := 14) (st' := [_, _, _]) rfl rfl ?_
  refine cl.s3I rfl (by decide) rfl (Nat.le_of_ble_eq_true rfl) (Nat.le_of_ble_eq_true rfl) (kc_within _ _ _ _) ?_
  refine cl.brn rfl (fun _ => ?_) (fun zq => absurd zq (fun q => (rf_o_0 _).mp q (rf_k8 ho)))
  refine jx_T.step (pc' := 24) (st' := [_]) rfl rfl ?_
  refine cl.br rfl (jx_br_lt _ _) (fun z1 => ?_) (fun z1 => ?_)
  · refine jx_T.step (pc' := 37) (st' := [_]) rfl rfl ?_
    exact jx_T.ret rfl rfl
  refine jx_T.step (pc' := 28) (st' := [_]) rfl rfl ?_
  refine cl.br rfl (jx_br_lt _ _) (fun z2 => ?_) (fun z2 => ?_)
  · refine jx_T.step (pc' := 37) (st' := [_]) rfl rfl ?_
    exact jx_T.ret rfl rfl
  refine jx_T.step (pc' := 33) (st' := [_]) rfl rfl ?_
  refine cl.br rfl (jx_br_ge _ _) (fun zq => absurd zq (Int32.not_le.mpr ((hb.resolve_left z1).resolve_left z2))) (fun _ => ?_)
  refine jx_T.step (pc' := 37) (st' := [_]) rfl rfl ?_
  exact jx_T.ret rfl rfl
end
