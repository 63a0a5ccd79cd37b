/-! the works: sheet -/
section
variable {W : cw} {g : Nat → Option jx_E} {B D x : Nat} {T : tv} {nx s : Nat}
theorem kc_sheet_1 (k f n : Int32) (hb : ¬ ((0 ≤ k.toInt ∧ k.toInt ≤ 7) ∧ (0 ≤ f.toInt ∧ f.toInt ≤ 2))) : jx_T 89 0 (jx_ent 89 [.ref 1, .int k, .int f, .int n]) [] (hc W g nx s) (some (.int 1)) (hc W g nx s) := by
  show jx_T 89 0 [.ref 1, .int k, .int f, .int n] [] _ _ _
  refine jx_T.step (pc' := 1) (st' := [_]) rfl rfl ?_
  refine jx_T.step (pc' := 2) (st' := [_, _]) rfl rfl ?_
  refine jx_T.step (pc' := 4) (st' := [_, _, _]) rfl rfl ?_
  refine cl.s3I rfl (by decide) rfl (Nat.le_of_ble_eq_true rfl) (Nat.le_of_ble_eq_true rfl) (kc_within _ _ _ _) ?_
  refine cl.br rfl (jx_br_eq _ _) (fun z => ?_) (fun z => ?_)
  · refine jx_T.step (pc' := 20) (st' := [_]) rfl rfl ?_
    exact jx_T.ret rfl rfl
  · have z1 := Decidable.not_not.mp (fun y => z ((rf_o_0 _).mpr y))
    refine jx_T.step (pc' := 11) (st' := [_]) rfl rfl ?_
    refine jx_T.step (pc' := 12) (st' := [_, _]) rfl rfl ?_
    refine jx_T.step (pc' := 13) (st' := [_, _, _]) rfl rfl ?_
    refine cl.s3I rfl (by decide) rfl (Nat.le_of_ble_eq_true rfl) (Nat.le_of_ble_eq_true rfl) (kc_within _ _ _ _) ?_
    refine cl.brn rfl (fun zq => absurd ((rf_o_0 _).mpr (fun t => hb ⟨z1, t⟩)) zq) (fun _ => ?_)
    refine jx_T.step (pc' := 20) (st' := [_]) rfl rfl ?_
    exact jx_T.ret rfl rfl
theorem kc_sheet_3 (k f n : Int32) (hb : (0 ≤ k.toInt ∧ k.toInt ≤ 7) ∧ (0 ≤ f.toInt ∧ f.toInt ≤ 2)) (hn : ¬ (0 ≤ n.toInt ∧ n.toInt ≤ 16)) : jx_T 89 0 (jx_ent 89 [.ref 1, .int k, .int f, .int n]) [] (hc W g nx s) (some (.int 3)) (hc W g nx s) := by
  show jx_T 89 0 [.ref 1, .int k, .int f, .int n] [] _ _ _
  refine jx_T.step (pc' := 1) (st' := [_]) rfl rfl ?_
  refine jx_T.step (pc' := 2) (st' := [_, _]) rfl rfl ?_
  refine jx_T.step (pc' := 4) (st' := [_, _, _]) rfl rfl ?_
  refine cl.s3I rfl (by decide) rfl (Nat.le_of_ble_eq_true rfl) (Nat.le_of_ble_eq_true rfl) (kc_within _ _ _ _) ?_
  refine cl.br rfl (jx_br_eq _ _) (fun zq => absurd zq (fun q => (rf_o_0 _).mp q hb.1)) (fun _ => ?_)
  refine jx_T.step (pc' := 11) (st' := [_]) rfl rfl ?_
  refine jx_T.step (pc' := 12) (st' := [_, _]) rfl rfl ?_
  refine jx_T.step (pc' := 13) (st' := [_, _, _]) rfl rfl ?_
  refine cl.s3I rfl (by decide) rfl (Nat.le_of_ble_eq_true rfl) (Nat.le_of_ble_eq_true rfl) (kc_within _ _ _ _) ?_
  refine cl.brn rfl (fun _ => ?_) (fun zq => absurd zq (fun q => (rf_o_0 _).mp q hb.2))
  refine jx_T.step (pc' := 22) (st' := [_]) rfl rfl ?_
  refine jx_T.step (pc' := 23) (st' := [_, _]) rfl rfl ?_
  refine jx_T.step (pc' := 25) (st' := [_, _, _]) rfl rfl ?_
  refine cl.s3I rfl (by decide) rfl (Nat.le_of_ble_eq_true rfl) (Nat.le_of_ble_eq_true rfl) (kc_within _ _ _ _) ?_
  refine cl.brn rfl (fun zq => absurd ((rf_o_0 _).mpr hn) zq) (fun _ => ?_)
  refine jx_T.step (pc' := 32) (st' := [_]) rfl rfl ?_
  exact jx_T.ret rfl rfl
theorem kc_sheet (hn : 35 ≤ nx) (hf : ∀ a, nx ≤ a → g a = none) (h : kn_at W g B D x T) (k n : Nat) (hk : k < 8) (hnn : n ≤ 16) (f : Int32) (hff : 0 ≤ f.toInt ∧ f.toInt ≤ 2) : ∃ g2, jx_T 89 0 (jx_ent 89 [.ref 1, .int (nI k), .int f, .int (nI n)]) [] (hc W g nx s) (some (.int 0)) (hc (kw_act W B D (nx + 3)) g2 (nx + 4) (s + 2 + n + 14)) ∧ ge g g2 ∧ (∀ a, nx + 4 ≤ a → g2 a = none) ∧ kn_at (kw_act W B D (nx + 3)) g2 (kB B D) (kD D) (nx + 3) (T.1, T.2.1, T.2.2.1, (fun j => if j = k then some (f, n, fun _ => 0) else T.2.2.2.1 j), T.2.2.2.2.1, T.2.2.2.2.2) := by
  have cn := kc_now nx s h.n
  obtain ⟨⟨h1, h2, h3, h4, h5⟩, im, ok⟩ := h
  have fa := hf nx (Nat.le_refl _)
  have fb := hf (nx + 1) (by omega)
  obtain ⟨G, eG⟩ : ∃ G, G = jx_up (jx_up (jx_up g nx (.inr (8, jx_dfl.getD 8 []))) (nx + 1) (.inl (0, n, .inl (fun _ => 0)))) nx (.inr (8, [.int f, .ref (nx + 1)])) := ⟨_, rfl⟩
  have G0 : G nx = some (.inr (8, [.int f, .ref (nx + 1)])) := by rw [eG]; exact jx_up_eq
  have G1 : G (nx + 1) = some (.inl (0, n, .inl (fun _ => 0))) := by rw [eG]; exact (jx_up_ne (by omega)).trans jx_up_eq
  have Go : ∀ a, a ≠ nx → a ≠ nx + 1 → G a = g a := fun a q1 q2 => by rw [eG]; exact (jx_up_ne q1).trans ((jx_up_ne q2).trans (jx_up_ne q1))
  have u : ge g G := fun a e he => by
    rw [Go a (fun q => by rw [q, fa] at he; exact absurd he (by simp)) (fun q => by rw [q, fb] at he; exact absurd he (by simp))]
    exact he
  have iy : im_sh G nx (f, n, fun _ => 0) := ⟨nx + 1, ⟨hn, G0⟩, ⟨Nat.le_trans hn (Nat.le_succ nx), G1⟩⟩
  obtain ⟨g2, c, u2, im2, fr⟩ := kc_withSheet (W := W) (s := s + 2 + n) (nx := nx + 2) (by omega) (fun a ha => (Go a (by omega) (by omega)).trans (hf a (by omega))) (im.ge u) k hk iy
  refine ⟨g2, ?_, u.tr u2, fr, kn_at.act ⟨⟨h1, h2, h3, h4, h5⟩, im, ok⟩ im2 ok⟩
  obtain ⟨t1, t2, t3, t4, e1, e2, e3, k1, -⟩ := im2
  have ca := kc_act (W := W) (g := g2) (nx := nx + 2 + 2) (s := s + 2 + n + 14) B D h1 h2 h3 h4 k1
  have im' := im.ge u
  obtain ⟨s1, s2, s3, s4, f1, f2, f3, q1, -⟩ := im'
  have ci := kc_initSheet (W := W) (g := jx_up (jx_up g nx (.inr (8, jx_dfl.getD 8 []))) (nx + 1) (.inl (0, n, .inl (fun _ => 0)))) (nx := nx + 1 + 1) (s := s + 2 + n) (a := nx) hn ((jx_up_ne (by omega)).trans jx_up_eq) f (nx + 1)
  rw [← eG] at ci
  show jx_T 89 0 [.ref 1, .int (nI k), .int f, .int (nI n)] [] _ _ _
  refine jx_T.step (pc' := 1) (st' := [_]) rfl rfl ?_
  refine jx_T.step (pc' := 2) (st' := [_, _]) rfl rfl ?_
  refine jx_T.step (pc' := 4) (st' := [_, _, _]) rfl rfl ?_
  refine cl.s3I rfl (by decide) rfl (Nat.le_of_ble_eq_true rfl) (Nat.le_of_ble_eq_true rfl) (kc_within _ _ _ _) ?_
  refine cl.br rfl (jx_br_eq _ _) (fun zq => absurd zq (fun q => (rf_o_0 _).mp q (rf_k8 hk))) (fun _ => ?_)
  refine jx_T.step (pc' := 11) (st' := [_]) rfl rfl ?_
  refine jx_T.step (pc' := 12) (st' := [_, _]) rfl rfl ?_
  refine jx_T.step (pc' := 13) (st' := [_, _, _]) rfl rfl ?_
  refine cl.s3I rfl (by decide) rfl (Nat.le_of_ble_eq_true rfl) (Nat.le_of_ble_eq_true rfl) (kc_within _ _ _ _) ?_
  refine cl.brn rfl (fun _ => ?_) (fun zq => absurd zq (fun q => (rf_o_0 _).mp q hff))
  refine jx_T.step (pc' := 22) (st' := [_]) rfl rfl ?_
  refine jx_T.step (pc' := 23) (st' := [_, _]) rfl rfl ?_
  refine jx_T.step (pc' := 25) (st' := [_, _, _]) rfl rfl ?_
  refine cl.s3I rfl (by decide) rfl (Nat.le_of_ble_eq_true rfl) (Nat.le_of_ble_eq_true rfl) (kc_within _ _ _ _) ?_
  rw [nI_toInt (by omega)]
  refine cl.brn rfl (fun _ => ?_) (fun zq => absurd zq (fun q => (rf_o_0 _).mp q (show (0 : Int) ≤ (n : Int) ∧ (n : Int) ≤ 16 by omega)))
  refine jx_T.step (pc' := 34) (st' := [_]) rfl rfl ?_
  refine jx_T.step (pc' := 35) (st' := [_, _]) rfl rfl ?_
  refine cl.v0I (hc_fix 1 (by decide) (cw_c1 _)) rfl (by decide) rfl ⟨Nat.le_of_ble_eq_true rfl, rfl⟩ (Nat.le_of_ble_eq_true rfl) (cn) ?_
  refine jx_T.step (pc' := 39) (st' := [_, _, _]) rfl rfl ?_
  refine cl.newo hn rfl ?_
  refine jx_T.step (pc' := 43) (st' := [_, _, _, _, _]) rfl rfl ?_
  refine jx_T.step (pc' := 44) (st' := [_, _, _, _, _, _]) rfl rfl ?_
  refine jx_T.step (pc' := 45) (st' := [_, _, _, _, _, _, _]) rfl rfl ?_
  refine cl.newI (by omega : 35 ≤ nx + 1) rfl ⟨nI_pos (by omega), by rw [nI_clamp (by omega)]; omega⟩ ?_
  rw [nI_clamp (by omega)]
  refine cl.p2V rfl (by decide) rfl (Nat.le_of_ble_eq_true rfl) (Nat.le_of_ble_eq_true rfl) (ci) ?_
  refine cl.v2I (hc_imm (q1).1 (q1).2) rfl (by decide) rfl ⟨Nat.le_of_ble_eq_true rfl, rfl⟩ (Nat.le_of_ble_eq_true rfl) (c) ?_
  refine cl.v1I (hc_fix 1 (by decide) (cw_c1 _)) rfl (by decide) rfl ⟨Nat.le_of_ble_eq_true rfl, rfl⟩ (Nat.le_of_ble_eq_true rfl) (ca) ?_
  exact jx_T.ret rfl rfl
end
