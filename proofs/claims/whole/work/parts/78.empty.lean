/-! the works: empty -/
section
variable {W : cw} {g : Nat → Option jx_E} {B D x : Nat} {T : tv} {nx s : Nat}
theorem kc_empty_no (k : Int32) (hk : ¬ (0 ≤ k.toInt ∧ k.toInt ≤ 3)) : jx_T 106 0 (jx_ent 106 [.ref 1, .int k]) [] (hc W g nx s) (some (.int 1)) (hc W g nx s) := by
  show jx_T 106 0 [.ref 1, .int k] [] _ _ _
  refine jx_T.step (pc' := 1) (st' := [_]) rfl rfl ?_
  refine jx_T.step (pc' := 2) (st' := [_, _]) rfl rfl ?_
  refine jx_T.step (pc' := 3) (st' := [_, _, _]) rfl rfl ?_
  refine cl.s3I rfl (by decide) rfl (Nat.le_of_ble_eq_true rfl) (Nat.le_of_ble_eq_true rfl) (kc_within _ _ _ _) ?_
  refine cl.brn rfl (fun zq => absurd ((rf_o_0 _).mpr hk) zq) (fun _ => ?_)
  refine jx_T.step (pc' := 10) (st' := [_]) rfl rfl ?_
  exact jx_T.ret rfl rfl
theorem kc_empty (hn : 35 ≤ nx) (hf : ∀ a, nx ≤ a → g a = none) (h : kn_at W g B D x T) (k : Nat) (hk : k < 4) : ∃ g2, jx_T 106 0 (jx_ent 106 [.ref 1, .int (nI k)]) [] (hc W g nx s) (some (.int 0)) (hc (kw_act W B D (nx + 5)) g2 (nx + 6) (s + 4 + 10)) ∧ ge g g2 ∧ (∀ a, nx + 6 ≤ a → g2 a = none) ∧ kn_at (kw_act W B D (nx + 5)) g2 (kB B D) (kD D) (nx + 5) (T.1, T.2.1, T.2.2.1, T.2.2.2.1, (fun j => if j = k then (0, (fun _ => 0), (fun _ => 0), fun _ => 0) else T.2.2.2.2.1 j), T.2.2.2.2.2) := by
  have cn := kc_now nx s h.n
  obtain ⟨⟨h1, h2, h3, h4, h5⟩, im, ok⟩ := h
  have l1 : 35 ≤ nx + 1 := Nat.le_trans hn (Nat.le_add_right _ _)
  have l2 : 35 ≤ nx + 1 + 1 := Nat.le_trans hn (Nat.le_add_right nx 2)
  have l3 : 35 ≤ nx + 1 + 1 + 1 := Nat.le_trans hn (Nat.le_add_right nx 3)
  obtain ⟨G, eG⟩ : ∃ G, G = jx_up (jx_up (jx_up (jx_up (jx_up g nx (.inr (4, jx_dfl.getD 4 []))) (nx + 1) (.inl (0, 0, .inl (fun _ => 0)))) (nx + 1 + 1) (.inl (0, 0, .inl (fun _ => 0)))) (nx + 1 + 1 + 1) (.inl (0, 0, .inl (fun _ => 0)))) nx (.inr (4, [.int 0, .ref (nx + 1), .ref (nx + 1 + 1), .ref (nx + 1 + 1 + 1)])) := ⟨_, rfl⟩
  have G0 : G nx = some (.inr (4, [.int 0, .ref (nx + 1), .ref (nx + 1 + 1), .ref (nx + 1 + 1 + 1)])) := by rw [eG]; exact jx_up_eq
  have G1 : G (nx + 1) = some (.inl (0, 0, .inl (fun _ => 0))) := by rw [eG]; exact (jx_up_ne (by omega)).trans ((jx_up_ne (by omega)).trans ((jx_up_ne (by omega)).trans jx_up_eq))
  have G2 : G (nx + 1 + 1) = some (.inl (0, 0, .inl (fun _ => 0))) := by rw [eG]; exact (jx_up_ne (by omega)).trans ((jx_up_ne (by omega)).trans jx_up_eq)
  have G3 : G (nx + 1 + 1 + 1) = some (.inl (0, 0, .inl (fun _ => 0))) := by rw [eG]; exact (jx_up_ne (by omega)).trans jx_up_eq
  have Go : ∀ a, (a < nx ∨ nx + 4 ≤ a) → G a = g a := fun a q => by rw [eG]; exact (jx_up_ne (by omega)).trans ((jx_up_ne (by omega)).trans ((jx_up_ne (by omega)).trans ((jx_up_ne (by omega)).trans (jx_up_ne (by omega)))))
  have u : ge g G := fun a e he => by
    rw [Go a (by
      refine Classical.byContradiction (fun q => ?_)
      rw [hf a (by omega)] at he
      exact absurd he (by simp))]
    exact he
  have iy : im_net G nx (0, (fun _ => 0), (fun _ => 0), fun _ => 0) := ⟨nx + 1, nx + 1 + 1, nx + 1 + 1 + 1, ⟨hn, G0⟩, ⟨l1, G1⟩, ⟨l2, G2⟩, ⟨l3, G3⟩⟩
  obtain ⟨g2, c, u2, im2, fr⟩ := kc_withNet (W := W) (s := s + 4) (nx := nx + 4) (by omega) (fun a ha => (Go a (by omega)).trans (hf a (by omega))) (im.ge u) k hk iy
  refine ⟨g2, ?_, u.tr u2, fr, kn_at.act ⟨⟨h1, h2, h3, h4, h5⟩, im, ok⟩ im2 ok⟩
  obtain ⟨t1, t2, t3, t4, e1, e2, e3, k1, -⟩ := im2
  have ca := kc_act (W := W) (g := g2) (nx := nx + 4 + 2) (s := s + 4 + 10) B D h1 h2 h3 h4 k1
  have im' := im.ge u
  obtain ⟨s1, s2, s3, s4, f1, f2, f3, q1, -⟩ := im'
  have ci := kc_initNet (W := W) (g := jx_up (jx_up (jx_up (jx_up g nx (.inr (4, jx_dfl.getD 4 []))) (nx + 1) (.inl (0, 0, .inl (fun _ => 0)))) (nx + 1 + 1) (.inl (0, 0, .inl (fun _ => 0)))) (nx + 1 + 1 + 1) (.inl (0, 0, .inl (fun _ => 0)))) (nx := nx + 4) (s := s + 4) (a := nx) hn ((jx_up_ne (by omega)).trans ((jx_up_ne (by omega)).trans ((jx_up_ne (by omega)).trans jx_up_eq))) 0 (nx + 1) (nx + 1 + 1) (nx + 1 + 1 + 1)
  rw [← eG] at ci
  show jx_T 106 0 [.ref 1, .int (nI k)] [] _ _ _
  refine jx_T.step (pc' := 1) (st' := [_]) rfl rfl ?_
  refine jx_T.step (pc' := 2) (st' := [_, _]) rfl rfl ?_
  refine jx_T.step (pc' := 3) (st' := [_, _, _]) rfl rfl ?_
  refine cl.s3I rfl (by decide) rfl (Nat.le_of_ble_eq_true rfl) (Nat.le_of_ble_eq_true rfl) (kc_within _ _ _ _) ?_
  refine cl.brn rfl (fun _ => ?_) (fun zq => absurd zq (fun q => (rf_o_0 _).mp q (rf_k4 hk)))
  refine jx_T.step (pc' := 12) (st' := [_]) rfl rfl ?_
  refine jx_T.step (pc' := 13) (st' := [_, _]) rfl rfl ?_
  refine cl.v0I (hc_fix 1 (by decide) (cw_c1 _)) rfl (by decide) rfl ⟨Nat.le_of_ble_eq_true rfl, rfl⟩ (Nat.le_of_ble_eq_true rfl) (cn) ?_
  refine jx_T.step (pc' := 17) (st' := [_, _, _]) rfl rfl ?_
  refine cl.newo hn rfl ?_
  refine jx_T.step (pc' := 21) (st' := [_, _, _, _, _]) rfl rfl ?_
  refine jx_T.step (pc' := 22) (st' := [_, _, _, _, _, _]) rfl rfl ?_
  refine jx_T.step (pc' := 23) (st' := [_, _, _, _, _, _, _]) rfl rfl ?_
  refine cl.newI l1 rfl (by decide) ?_
  refine jx_T.step (pc' := 26) (st' := [_, _, _, _, _, _, _, _]) rfl rfl ?_
  refine cl.newI l2 rfl (by decide) ?_
  refine jx_T.step (pc' := 29) (st' := [_, _, _, _, _, _, _, _, _]) rfl rfl ?_
  refine cl.newI l3 rfl (by decide) ?_
  refine cl.p4V rfl (by decide) rfl (Nat.le_of_ble_eq_true rfl) (Nat.le_of_ble_eq_true rfl) (ci) ?_
  refine cl.v2I (hc_imm (q1).1 (q1).2) rfl (by decide) rfl ⟨Nat.le_of_ble_eq_true rfl, rfl⟩ (Nat.le_of_ble_eq_true rfl) (c) ?_
  refine cl.v1I (hc_fix 1 (by decide) (cw_c1 _)) rfl (by decide) rfl ⟨Nat.le_of_ble_eq_true rfl, rfl⟩ (Nat.le_of_ble_eq_true rfl) (ca) ?_
  exact jx_T.ret rfl rfl
end
