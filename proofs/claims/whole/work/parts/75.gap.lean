/-! the works: gap, tear, newcomers -/
def kn_at (W : cw) (g : Nat → Option jx_E) (B D x : Nat) (T : tv) : Prop := (B < 201 ∧ D ≤ 200 ∧ W.2.2.1 1 1 = nI B ∧ W.2.2.1 1 2 = nI D ∧ W.2.2.2.2.1 ((B + D) % 201) = some x) ∧ im_sta g x T ∧ tv_ok T
theorem kn_at.n {W : cw} {g : Nat → Option jx_E} {B D x : Nat} {T : tv} (h : kn_at W g B D x T) : cl_now W g x T := ⟨⟨B, D, h.1⟩, h.2⟩
def kB (B D : Nat) : Nat := if D < 200 then B else (B + 1) % 201
def kD (D : Nat) : Nat := if D < 200 then D + 1 else D
theorem kn_at.act {W : cw} {g g2 : Nat → Option jx_E} {B D x y : Nat} {T T2 : tv} (h : kn_at W g B D x T) (im : im_sta g2 y T2) (ok : tv_ok T2) : kn_at (kw_act W B D y) g2 (kB B D) (kD D) y T2 := by
  obtain ⟨⟨h1, h2, h3, h4, h5⟩, -⟩ := h
  unfold kw_act kB kD
  by_cases z : D < 200
  · simp only [if_pos z]
    refine ⟨⟨h1, by omega, h3, rfl, ?_⟩, im, ok⟩
    show va_up W.2.2.2.2.1 _ _ _ = _
    unfold va_up
    rw [if_pos rfl]
  · simp only [if_neg z]
    refine ⟨⟨Nat.mod_lt _ (by decide), h2, rfl, h4, ?_⟩, im, ok⟩
    show va_up W.2.2.2.2.1 _ _ _ = _
    unfold va_up
    rw [if_pos rfl]
section
variable {W : cw} {g : Nat → Option jx_E} {B D x : Nat} {T : tv} {nx s : Nat}
theorem kc_gap_no (gp : Int32) (hg : ¬ (1 ≤ gp.toInt ∧ gp.toInt ≤ 200)) : jx_T 103 0 (jx_ent 103 [.ref 1, .int gp]) [] (hc W g nx s) (some (.int 3)) (hc W g nx s) := by
  show jx_T 103 0 [.ref 1, .int gp] [] _ _ _
  refine jx_T.step (pc' := 1) (st' := [_]) rfl rfl ?_
  refine jx_T.step (pc' := 2) (st' := [_, _]) rfl rfl ?_
  refine jx_T.step (pc' := 5) (st' := [_, _, _]) rfl rfl ?_
  refine cl.s3I rfl (by decide) rfl (Nat.le_of_ble_eq_true rfl) (Nat.le_of_ble_eq_true rfl) (kc_within _ _ _ _) ?_
  refine cl.brn rfl (fun zq => absurd ((rf_o_0 _).mpr hg) zq) (fun _ => ?_)
  refine jx_T.step (pc' := 12) (st' := [_]) rfl rfl ?_
  exact jx_T.ret rfl rfl
theorem kc_gap (hn : 35 ≤ nx) (hf : ∀ a, nx ≤ a → g a = none) (h : kn_at W g B D x T) (gp : Int32) (hg : 1 ≤ gp.toInt ∧ gp.toInt ≤ 200) : ∃ g2, jx_T 103 0 (jx_ent 103 [.ref 1, .int gp]) [] (hc W g nx s) (some (.int 0)) (hc (kw_act W B D nx) g2 (nx + 1) (s + 6)) ∧ ge g g2 ∧ (∀ a, nx + 1 ≤ a → g2 a = none) ∧ kn_at (kw_act W B D nx) g2 (kB B D) (kD D) nx (gp, T.2) := by
  have cn := kc_now nx s h.n
  obtain ⟨⟨h1, h2, h3, h4, h5⟩, im, ok⟩ := h
  obtain ⟨g2, c, u, im2, fr⟩ := kc_withGap (W := W) (s := s) hn (hf nx (Nat.le_refl _)) im gp
  refine ⟨g2, ?_, u, fun a ha => (fr a ha).trans (hf a (by omega)), kn_at.act ⟨⟨h1, h2, h3, h4, h5⟩, im, ok⟩ im2 ok⟩
  obtain ⟨t1, t2, t3, t4, e1, e2, e3, k1, -⟩ := im2
  have ca := kc_act (W := W) (g := g2) (nx := nx + 1) (s := s + 6) B D h1 h2 h3 h4 k1
  obtain ⟨s1, s2, s3, s4, f1, f2, f3, q1, -⟩ := im
  show jx_T 103 0 [.ref 1, .int gp] [] _ _ _
  refine jx_T.step (pc' := 1) (st' := [_]) rfl rfl ?_
  refine jx_T.step (pc' := 2) (st' := [_, _]) rfl rfl ?_
  refine jx_T.step (pc' := 5) (st' := [_, _, _]) rfl rfl ?_
  refine cl.s3I rfl (by decide) rfl (Nat.le_of_ble_eq_true rfl) (Nat.le_of_ble_eq_true rfl) (kc_within _ _ _ _) ?_
  refine cl.brn rfl (fun _ => ?_) (fun zq => absurd zq (fun q => (rf_o_0 _).mp q hg))
  refine jx_T.step (pc' := 14) (st' := [_]) rfl rfl ?_
  refine jx_T.step (pc' := 15) (st' := [_, _]) rfl rfl ?_
  refine cl.v0I (hc_fix 1 (by decide) (cw_c1 _)) rfl (by decide) rfl ⟨Nat.le_of_ble_eq_true rfl, rfl⟩ (Nat.le_of_ble_eq_true rfl) (cn) ?_
  refine jx_T.step (pc' := 19) (st' := [_, _, _]) rfl rfl ?_
  refine cl.v1I (hc_imm (q1).1 (q1).2) rfl (by decide) rfl ⟨Nat.le_of_ble_eq_true rfl, rfl⟩ (Nat.le_of_ble_eq_true rfl) (c) ?_
  refine cl.v1I (hc_fix 1 (by decide) (cw_c1 _)) rfl (by decide) rfl ⟨Nat.le_of_ble_eq_true rfl, rfl⟩ (Nat.le_of_ble_eq_true rfl) (ca) ?_
  exact jx_T.ret rfl rfl
theorem kc_tear_no (k : Int32) (hk : ¬ (0 ≤ k.toInt ∧ k.toInt ≤ 7)) : jx_T 94 0 (jx_ent 94 [.ref 1, .int k]) [] (hc W g nx s) (some (.int 1)) (hc W g nx s) := by
  show jx_T 94 0 [.ref 1, .int k] [] _ _ _
  refine jx_T.step (pc' := 1) (st' := [_]) rfl rfl ?_
  refine jx_T.step (pc' := 2) (st' := [_, _]) rfl rfl ?_
  refine jx_T.step (pc' := 4) (st' := [_, _, _]) rfl rfl ?_
  refine cl.s3I rfl (by decide) rfl (Nat.le_of_ble_eq_true rfl) (Nat.le_of_ble_eq_true rfl) (kc_within _ _ _ _) ?_
  refine cl.brn rfl (fun zq => absurd ((rf_o_0 _).mpr hk) zq) (fun _ => ?_)
  refine jx_T.step (pc' := 11) (st' := [_]) rfl rfl ?_
  exact jx_T.ret rfl rfl
theorem kc_tear (hn : 35 ≤ nx) (hf : ∀ a, nx ≤ a → g a = none) (h : kn_at W g B D x T) (k : Nat) (hk : k < 8) : ∃ g2, jx_T 94 0 (jx_ent 94 [.ref 1, .int (nI k)]) [] (hc W g nx s) (some (.int 0)) (hc (kw_act W B D (nx + 1)) g2 (nx + 2) (s + 14)) ∧ ge g g2 ∧ (∀ a, nx + 2 ≤ a → g2 a = none) ∧ kn_at (kw_act W B D (nx + 1)) g2 (kB B D) (kD D) (nx + 1) (T.1, T.2.1, T.2.2.1, (fun j => if j = k then none else T.2.2.2.1 j), T.2.2.2.2.1, T.2.2.2.2.2) := by
  have cn := kc_now nx s h.n
  obtain ⟨⟨h1, h2, h3, h4, h5⟩, im, ok⟩ := h
  obtain ⟨g2, c, u, im2, fr⟩ := kc_withSheetN (W := W) (s := s) hn hf im k hk
  refine ⟨g2, ?_, u, fr, kn_at.act ⟨⟨h1, h2, h3, h4, h5⟩, im, ok⟩ im2 ok⟩
  obtain ⟨t1, t2, t3, t4, e1, e2, e3, k1, -⟩ := im2
  have ca := kc_act (W := W) (g := g2) (nx := nx + 2) (s := s + 14) B D h1 h2 h3 h4 k1
  obtain ⟨s1, s2, s3, s4, f1, f2, f3, q1, -⟩ := im
  show jx_T 94 0 [.ref 1, .int (nI k)] [] _ _ _
  refine jx_T.step (pc' := 1) (st' := [_]) rfl rfl ?_
  refine jx_T.step (pc' := 2) (st' := [_, _]) rfl rfl ?_
  refine jx_T.step (pc' := 4) (st' := [_, _, _]) rfl rfl ?_
  refine cl.s3I rfl (by decide) rfl (Nat.le_of_ble_eq_true rfl) (Nat.le_of_ble_eq_true rfl) (kc_within _ _ _ _) ?_
  refine cl.brn rfl (fun _ => ?_) (fun zq => absurd zq (fun q => (rf_o_0 _).mp q (rf_k8 hk)))
  refine jx_T.step (pc' := 13) (st' := [_]) rfl rfl ?_
  refine jx_T.step (pc' := 14) (st' := [_, _]) rfl rfl ?_
  refine cl.v0I (hc_fix 1 (by decide) (cw_c1 _)) rfl (by decide) rfl ⟨Nat.le_of_ble_eq_true rfl, rfl⟩ (Nat.le_of_ble_eq_true rfl) (cn) ?_
  refine jx_T.step (pc' := 18) (st' := [_, _, _]) rfl rfl ?_
  refine jx_T.step (pc' := 19) (st' := [_, _, _, _]) rfl rfl ?_
  refine cl.v2I (hc_imm (q1).1 (q1).2) rfl (by decide) rfl ⟨Nat.le_of_ble_eq_true rfl, rfl⟩ (Nat.le_of_ble_eq_true rfl) (c) ?_
  refine cl.v1I (hc_fix 1 (by decide) (cw_c1 _)) rfl (by decide) rfl ⟨Nat.le_of_ble_eq_true rfl, rfl⟩ (Nat.le_of_ble_eq_true rfl) (ca) ?_
  exact jx_T.ret rfl rfl
def kn_st (M : Nat) (b : Int32) : Int32 := if b = 0 then 1 else if M < 12 then 0 else 2
theorem kc_newcomer (n : cl_now W g x T) (b : Int32) : jx_T 97 0 (jx_ent 97 [.ref 1, .int b]) [] (hc W g nx s) (some (.int (kn_st T.2.1 b))) (hc W g nx s) := by
  have cn := kc_now nx s n
  have hM := n.2.2.1
  obtain ⟨s1, s2, s3, s4, f1, f2, f3, q1, -⟩ := n.2.1
  show jx_T 97 0 [.ref 1, .int b] [] _ _ _
  unfold kn_st
  refine jx_T.step (pc' := 1) (st' := [_]) rfl rfl ?_
  by_cases z : b = 0
  · rw [if_pos z]
    refine cl.brn rfl (fun zq => absurd (z) zq) (fun _ => ?_)
    refine jx_T.step (pc' := 5) (st' := [_]) rfl rfl ?_
    exact jx_T.ret rfl rfl
  · rw [if_neg z]
    refine cl.brn rfl (fun _ => ?_) (fun zq => absurd zq (z))
    refine jx_T.step (pc' := 7) (st' := [_]) rfl rfl ?_
    refine cl.v0I (hc_fix 1 (by decide) (cw_c1 _)) rfl (by decide) rfl ⟨Nat.le_of_ble_eq_true rfl, rfl⟩ (Nat.le_of_ble_eq_true rfl) (cn) ?_
    refine cl.geti (q1).1 (q1).2 rfl rfl ?_
    refine jx_T.step (pc' := 15) (st' := [_, _]) rfl rfl ?_
    rw [rf_lit 12]
    by_cases y : T.2.1 < 12
    · rw [if_pos y]
      refine cl.bc rfl (jx_br_lt _ _) (fun _ => ?_) (fun zq => absurd (nI_lt y (by decide)) zq)
      refine jx_T.step (pc' := 23) (st' := [_]) rfl rfl ?_
      exact jx_T.ret rfl rfl
    · rw [if_neg y]
      refine cl.bc rfl (jx_br_lt _ _) (fun zq => absurd zq (Int32.not_lt.mpr (nI_le (by omega) (by omega)))) (fun _ => ?_)
      refine jx_T.step (pc' := 19) (st' := [_]) rfl rfl ?_
      refine jx_T.step (pc' := 23) (st' := [_]) rfl rfl ?_
      exact jx_T.ret rfl rfl
end
