/-! the works: cell -/
section
variable {W : cw} {g : Nat → Option jx_E} {B D x : Nat} {T : tv} {nx s : Nat}
theorem kc_cell_1 (k i w : Int32) (hb : ¬ ((0 ≤ k.toInt ∧ k.toInt ≤ 7) ∧ (0 ≤ i.toInt ∧ i.toInt ≤ 15))) : jx_T 93 0 (jx_ent 93 [.ref 1, .int k, .int i, .int w]) [] (hc W g nx s) (some (.int 1)) (hc W g nx s) := by
  show jx_T 93 0 [.ref 1, .int k, .int i, .int w, .retAddr 0] [] _ _ _
  refine jx_T.step (pc' := 1) (st' := [_]) rfl rfl ?_
  refine jx_T.step (pc' := 2) (st' := [_, _]) rfl rfl ?_
  refine jx_T.step (pc' := 4) (st' := [_, _, _]) rfl rfl ?_
  refine cl.s3I rfl (by decide) rfl (Nat.le_of_ble_eq_true rfl) (Nat.le_of_ble_eq_true rfl) (kc_within _ _ _ _) ?_
  refine cl.br rfl (jx_br_eq _ _) (fun z => ?_) (fun z => ?_)
  · refine jx_T.step (pc' := 21) (st' := [_]) rfl rfl ?_
    exact jx_T.ret rfl rfl
  · have z1 := Decidable.not_not.mp (fun y => z ((rf_o_0 _).mpr y))
    refine jx_T.step (pc' := 11) (st' := [_]) rfl rfl ?_
    refine jx_T.step (pc' := 12) (st' := [_, _]) rfl rfl ?_
    refine jx_T.step (pc' := 14) (st' := [_, _, _]) rfl rfl ?_
    refine cl.s3I rfl (by decide) rfl (Nat.le_of_ble_eq_true rfl) (Nat.le_of_ble_eq_true rfl) (kc_within _ _ _ _) ?_
    refine cl.brn rfl (fun zq => absurd ((rf_o_0 _).mpr (fun t => hb ⟨z1, t⟩)) zq) (fun _ => ?_)
    refine jx_T.step (pc' := 21) (st' := [_]) rfl rfl ?_
    exact jx_T.ret rfl rfl
theorem kc_cell_4 (n : cl_now W g x T) (k i : Nat) (hk : k < 8) (hi : i < 16) (w : Int32) (hs : T.2.2.2.1 k = none) : jx_T 93 0 (jx_ent 93 [.ref 1, .int (nI k), .int (nI i), .int w]) [] (hc W g nx s) (some (.int 4)) (hc W g nx s) := by
  have cn := kc_now nx s n
  obtain ⟨s1, s2, s3, s4, f1, f2, f3, h1, h2, h3, h4, h5, -⟩ := n.2.1
  have e2 : f2 k = none := by
    rcases h5 k hk with q | ⟨X, b, q1, -⟩
    · exact q.2
    · rw [hs] at q1
      exact absurd q1 (by simp)
  show jx_T 93 0 [.ref 1, .int (nI k), .int (nI i), .int w, .retAddr 0] [] _ _ _
  refine jx_T.step (pc' := 1) (st' := [_]) rfl rfl ?_
  refine jx_T.step (pc' := 2) (st' := [_, _]) rfl rfl ?_
  refine jx_T.step (pc' := 4) (st' := [_, _, _]) rfl rfl ?_
  refine cl.s3I rfl (by decide) rfl (Nat.le_of_ble_eq_true rfl) (Nat.le_of_ble_eq_true rfl) (kc_within _ _ _ _) ?_
  refine cl.br rfl (jx_br_eq _ _) (fun zq => absurd zq (fun q => (rf_o_0 _).mp q (rf_k8 hk))) (fun _ => ?_)
  refine jx_T.step (pc' := 11) (st' := [_]) rfl rfl ?_
  refine jx_T.step (pc' := 12) (st' := [_, _]) rfl rfl ?_
  refine jx_T.step (pc' := 14) (st' := [_, _, _]) rfl rfl ?_
  refine cl.s3I rfl (by decide) rfl (Nat.le_of_ble_eq_true rfl) (Nat.le_of_ble_eq_true rfl) (kc_within _ _ _ _) ?_
  refine cl.brn rfl (fun _ => ?_) (fun zq => absurd zq (fun q => (rf_o_0 _).mp q (rf_k16 hi)))
  refine jx_T.step (pc' := 23) (st' := [_]) rfl rfl ?_
  refine cl.v0I (hc_fix 1 (by decide) (cw_c1 _)) rfl (by decide) rfl ⟨Nat.le_of_ble_eq_true rfl, rfl⟩ (Nat.le_of_ble_eq_true rfl) (cn) ?_
  refine cl.geti (h1).1 (h1).2 rfl rfl ?_
  refine jx_T.step (pc' := 30) (st' := [_, _]) rfl rfl ?_
  refine cl.aaldi (h4).1 (h4).2 rfl (by decide) (rf_ix (by omega) (by decide)) ?_
  rw [nI_clamp (by omega), e2]
  refine jx_T.step (pc' := 33) (ls' := [_, _, _, _, _]) (st' := []) rfl rfl ?_
  refine jx_T.step (pc' := 35) (st' := [_]) rfl rfl ?_
  refine jx_T.step (pc' := 38) (st' := []) rfl rfl ?_
  refine jx_T.step (pc' := 39) (st' := [_]) rfl rfl ?_
  exact jx_T.ret rfl rfl
theorem kc_cell_5 (n : cl_now W g x T) (k i : Nat) (hk : k < 8) (hi : i < 16) (w : Int32) {X : shv} (hs : T.2.2.2.1 k = some X) (hX : X.2.1 ≤ 16) (hl : X.2.1 ≤ i) : jx_T 93 0 (jx_ent 93 [.ref 1, .int (nI k), .int (nI i), .int w]) [] (hc W g nx s) (some (.int 5)) (hc W g nx s) := by
  have cn := kc_now nx s n
  obtain ⟨s1, s2, s3, s4, f1, f2, f3, h1, h2, h3, h4, h5, -⟩ := n.2.1
  obtain ⟨b, e2, c, q1, q2⟩ : ∃ b, f2 k = some b ∧ im_sh g b X := by
    rcases h5 k hk with q | ⟨X2, b, q1, q2, q3⟩
    · rw [hs] at q
      exact absurd q.1 (by simp)
    · rw [hs] at q1
      rw [Option.some.inj q1]
      exact ⟨b, q2, q3⟩
  show jx_T 93 0 [.ref 1, .int (nI k), .int (nI i), .int w, .retAddr 0] [] _ _ _
  refine jx_T.step (pc' := 1) (st' := [_]) rfl rfl ?_
  refine jx_T.step (pc' := 2) (st' := [_, _]) rfl rfl ?_
  refine jx_T.step (pc' := 4) (st' := [_, _, _]) rfl rfl ?_
  refine cl.s3I rfl (by decide) rfl (Nat.le_of_ble_eq_true rfl) (Nat.le_of_ble_eq_true rfl) (kc_within _ _ _ _) ?_
  refine cl.br rfl (jx_br_eq _ _) (fun zq => absurd zq (fun q => (rf_o_0 _).mp q (rf_k8 hk))) (fun _ => ?_)
  refine jx_T.step (pc' := 11) (st' := [_]) rfl rfl ?_
  refine jx_T.step (pc' := 12) (st' := [_, _]) rfl rfl ?_
  refine jx_T.step (pc' := 14) (st' := [_, _, _]) rfl rfl ?_
  refine cl.s3I rfl (by decide) rfl (Nat.le_of_ble_eq_true rfl) (Nat.le_of_ble_eq_true rfl) (kc_within _ _ _ _) ?_
  refine cl.brn rfl (fun _ => ?_) (fun zq => absurd zq (fun q => (rf_o_0 _).mp q (rf_k16 hi)))
  refine jx_T.step (pc' := 23) (st' := [_]) rfl rfl ?_
  refine cl.v0I (hc_fix 1 (by decide) (cw_c1 _)) rfl (by decide) rfl ⟨Nat.le_of_ble_eq_true rfl, rfl⟩ (Nat.le_of_ble_eq_true rfl) (cn) ?_
  refine cl.geti (h1).1 (h1).2 rfl rfl ?_
  refine jx_T.step (pc' := 30) (st' := [_, _]) rfl rfl ?_
  refine cl.aaldi (h4).1 (h4).2 rfl (by decide) (rf_ix (by omega) (by decide)) ?_
  rw [nI_clamp (by omega), e2]
  refine jx_T.step (pc' := 33) (ls' := [_, _, _, _, _]) (st' := []) rfl rfl ?_
  refine jx_T.step (pc' := 35) (st' := [_]) rfl rfl ?_
  refine jx_T.step (pc' := 40) (st' := []) rfl rfl ?_
  refine jx_T.step (pc' := 41) (st' := [_]) rfl rfl ?_
  refine jx_T.step (pc' := 43) (st' := [_, _]) rfl rfl ?_
  refine cl.geti (q1).1 (q1).2 rfl rfl ?_
  refine cl.aleni (q2).1 (q2).2 rfl (Or.inl (by decide)) ?_
  refine cl.bc rfl (jx_br_lt _ _) (fun zq => absurd zq (Int32.not_lt.mpr (nI_le hl (by omega)))) (fun _ => ?_)
  refine jx_T.step (pc' := 51) (st' := [_]) rfl rfl ?_
  exact jx_T.ret rfl rfl
theorem kc_cell (hn : 35 ≤ nx) (hf : ∀ a, nx ≤ a → g a = none) (h : kn_at W g B D x T) (k i : Nat) (hk : k < 8) (hi : i < 16) (w : Int32) {X : shv} (hs : T.2.2.2.1 k = some X) (hX : X.2.1 ≤ 16) (hl : i < X.2.1) : ∃ g2, jx_T 93 0 (jx_ent 93 [.ref 1, .int (nI k), .int (nI i), .int w]) [] (hc W g nx s) (some (.int 0)) (hc (kw_act W B D (nx + 3)) g2 (nx + 4) (s + X.2.1 + 2 + 14)) ∧ ge g g2 ∧ (∀ a, nx + 4 ≤ a → g2 a = none) ∧ kn_at (kw_act W B D (nx + 3)) g2 (kB B D) (kD D) (nx + 3) (T.1, T.2.1, T.2.2.1, (fun j => if j = k then some (X.1, X.2.1, upd X.2.2 i (rf_nar X.1 w)) else T.2.2.2.1 j), T.2.2.2.2.1, T.2.2.2.2.2) := by
  have cn := kc_now nx s h.n
  obtain ⟨⟨h1, h2, h3, h4, h5⟩, im, ok⟩ := h
  have im0 := im
  obtain ⟨s1, s2, s3, s4, f1, f2, f3, p1, p2, p3, p4, p5, p6⟩ := im
  obtain ⟨b, e2, ib⟩ : ∃ b, f2 k = some b ∧ im_sh g b X := by
    rcases p5 k hk with q | ⟨X2, b, q1, q2, q3⟩
    · rw [hs] at q
      exact absurd q.1 (by simp)
    · rw [hs] at q1
      rw [Option.some.inj q1]
      exact ⟨b, q2, q3⟩
  obtain ⟨G, cG, uG, iG, fG⟩ := kc_withNumber (W := W) (s := s) hn hf ib i hl hX w
  obtain ⟨g2, c, u2, im2, fr⟩ := kc_withSheet (W := W) (s := s + X.2.1 + 2) (nx := nx + 2) (by omega) fG (im0.ge uG) k hk iG
  refine ⟨g2, ?_, uG.tr u2, fr, kn_at.act ⟨⟨h1, h2, h3, h4, h5⟩, im0, ok⟩ im2 ok⟩
  obtain ⟨t1, t2, t3, t4, e3, e4, e5, k1, -⟩ := im2
  have ca := kc_act (W := W) (g := g2) (nx := nx + 2 + 2) (s := s + X.2.1 + 2 + 14) B D h1 h2 h3 h4 k1
  obtain ⟨y, q1, q2⟩ := ib
  have pG : 35 ≤ x ∧ G x = some (.inr (9, [.int T.1, .int (nI T.2.1), .ref s1, .ref s2, .ref s3, .ref s4])) := ⟨p1.1, uG _ _ p1.2⟩
  show jx_T 93 0 [.ref 1, .int (nI k), .int (nI i), .int w, .retAddr 0] [] _ _ _
  refine jx_T.step (pc' := 1) (st' := [_]) rfl rfl ?_
  refine jx_T.step (pc' := 2) (st' := [_, _]) rfl rfl ?_
  refine jx_T.step (pc' := 4) (st' := [_, _, _]) rfl rfl ?_
  refine cl.s3I rfl (by decide) rfl (Nat.le_of_ble_eq_true rfl) (Nat.le_of_ble_eq_true rfl) (kc_within _ _ _ _) ?_
  refine cl.br rfl (jx_br_eq _ _) (fun zq => absurd zq (fun q => (rf_o_0 _).mp q (rf_k8 hk))) (fun _ => ?_)
  refine jx_T.step (pc' := 11) (st' := [_]) rfl rfl ?_
  refine jx_T.step (pc' := 12) (st' := [_, _]) rfl rfl ?_
  refine jx_T.step (pc' := 14) (st' := [_, _, _]) rfl rfl ?_
  refine cl.s3I rfl (by decide) rfl (Nat.le_of_ble_eq_true rfl) (Nat.le_of_ble_eq_true rfl) (kc_within _ _ _ _) ?_
  refine cl.brn rfl (fun _ => ?_) (fun zq => absurd zq (fun q => (rf_o_0 _).mp q (rf_k16 hi)))
  refine jx_T.step (pc' := 23) (st' := [_]) rfl rfl ?_
  refine cl.v0I (hc_fix 1 (by decide) (cw_c1 _)) rfl (by decide) rfl ⟨Nat.le_of_ble_eq_true rfl, rfl⟩ (Nat.le_of_ble_eq_true rfl) (cn) ?_
  refine cl.geti (p1).1 (p1).2 rfl rfl ?_
  refine jx_T.step (pc' := 30) (st' := [_, _]) rfl rfl ?_
  refine cl.aaldi (p4).1 (p4).2 rfl (by decide) (rf_ix (by omega) (by decide)) ?_
  rw [nI_clamp (by omega), e2]
  refine jx_T.step (pc' := 33) (ls' := [_, _, _, _, _]) (st' := []) rfl rfl ?_
  refine jx_T.step (pc' := 35) (st' := [_]) rfl rfl ?_
  refine jx_T.step (pc' := 40) (st' := []) rfl rfl ?_
  refine jx_T.step (pc' := 41) (st' := [_]) rfl rfl ?_
  refine jx_T.step (pc' := 43) (st' := [_, _]) rfl rfl ?_
  refine cl.geti (q1).1 (q1).2 rfl rfl ?_
  refine cl.aleni (q2).1 (q2).2 rfl (Or.inl (by decide)) ?_
  refine cl.bc rfl (jx_br_lt _ _) (fun _ => ?_) (fun zq => absurd (nI_lt hl (by omega)) zq)
  refine jx_T.step (pc' := 53) (st' := [_]) rfl rfl ?_
  refine jx_T.step (pc' := 54) (st' := [_, _]) rfl rfl ?_
  refine cl.v0I (hc_fix 1 (by decide) (cw_c1 _)) rfl (by decide) rfl ⟨Nat.le_of_ble_eq_true rfl, rfl⟩ (Nat.le_of_ble_eq_true rfl) (cn) ?_
  refine jx_T.step (pc' := 58) (st' := [_, _, _]) rfl rfl ?_
  refine jx_T.step (pc' := 60) (st' := [_, _, _, _]) rfl rfl ?_
  refine jx_T.step (pc' := 61) (st' := [_, _, _, _, _]) rfl rfl ?_
  refine jx_T.step (pc' := 62) (st' := [_, _, _, _, _, _]) rfl rfl ?_
  refine cl.v2I (hc_imm (q1).1 (q1).2) rfl (by decide) rfl ⟨Nat.le_of_ble_eq_true rfl, rfl⟩ (Nat.le_of_ble_eq_true rfl) (cG) ?_
  refine cl.v2I (hc_imm (pG).1 (pG).2) rfl (by decide) rfl ⟨Nat.le_of_ble_eq_true rfl, rfl⟩ (Nat.le_of_ble_eq_true rfl) (c) ?_
  refine cl.v1I (hc_fix 1 (by decide) (cw_c1 _)) rfl (by decide) rfl ⟨Nat.le_of_ble_eq_true rfl, rfl⟩ (Nat.le_of_ble_eq_true rfl) (ca) ?_
  exact jx_T.ret rfl rfl
end
