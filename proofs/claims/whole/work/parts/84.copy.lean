/-! the works: copy -/
section
variable {W : cw} {g : Nat → Option jx_E} {B D x : Nat} {T : tv} {nx s : Nat}
theorem im_sta.sheet {k : Nat} {X : shv} {f2 : Nat → Option Nat} (h5 : ∀ k, k < 8 → (T.2.2.2.1 k = none ∧ f2 k = none) ∨ ∃ X b, T.2.2.2.1 k = some X ∧ f2 k = some b ∧ im_sh g b X) (hk : k < 8) (hs : T.2.2.2.1 k = some X) : ∃ b, f2 k = some b ∧ im_sh g b X := by
  rcases h5 k hk with q | ⟨X2, b, q1, q2, q3⟩
  · rw [hs] at q
    exact absurd q.1 (by simp)
  · rw [hs] at q1
    rw [Option.some.inj q1]
    exact ⟨b, q2, q3⟩
theorem kc_copy (hn : 35 ≤ nx) (hf : ∀ a, nx ≤ a → g a = none) (h : kn_at W g B D x T) (k o i j n : Nat) (hk : k < 8) (ho : o < 8) {X Z : shv} (hsk : T.2.2.2.1 k = some Z) (hso : T.2.2.2.1 o = some X) (hZ : Z.2.1 ≤ 16) (hX : X.2.1 ≤ 16) (hi : i + n ≤ Z.2.1) (hj : j + n ≤ X.2.1) (hfm : Z.1 = X.1) : ∃ g2, jx_T 95 0 (jx_ent 95 [.ref 1, .int (nI k), .int (nI i), .int (nI o), .int (nI j), .int (nI n)]) [] (hc W g nx s) (some (.int 0)) (hc (kw_act W B D (nx + 3)) g2 (nx + 4) (s + X.2.1 + 2 + 14)) ∧ ge g g2 ∧ (∀ a, nx + 4 ≤ a → g2 a = none) ∧ kn_at (kw_act W B D (nx + 3)) g2 (kB B D) (kD D) (nx + 3) (T.1, T.2.1, T.2.2.1, (fun q => if q = o then some (X.1, X.2.1, rf_put X.2.2 (fun q => Z.2.2 (i + q)) j n) else T.2.2.2.1 q), T.2.2.2.2.1, T.2.2.2.2.2) := by
  have cn := kc_now nx s h.n
  obtain ⟨⟨h1, h2, h3, h4, h5⟩, im, ok⟩ := h
  have im0 := im
  obtain ⟨s1, s2, s3, s4, f1, f2, f3, p1, p2, p3, p4, p5, p6⟩ := im
  obtain ⟨a, ea, ia⟩ := im_sta.sheet p5 hk hsk
  obtain ⟨b, eb, ib⟩ := im_sta.sheet p5 ho hso
  obtain ⟨G, cG, uG, iG, fG⟩ := kc_withNumbersOf (W := W) (s := s) hn hf ib ia i j n hi hj hX hZ
  obtain ⟨g2, c, u2, im2, fr⟩ := kc_withSheet (W := W) (s := s + X.2.1 + 2) (nx := nx + 2) (by omega) fG (im0.ge uG) o ho iG
  refine ⟨g2, ?_, uG.tr u2, fr, kn_at.act ⟨⟨h1, h2, h3, h4, h5⟩, im0, ok⟩ im2 ok⟩
  obtain ⟨t1, t2, t3, t4, e3, e4, e5, k1, -⟩ := im2
  have ca := kc_act (W := W) (g := g2) (nx := nx + 2 + 2) (s := s + X.2.1 + 2 + 14) B D h1 h2 h3 h4 k1
  obtain ⟨ya, qa1, qa2⟩ := ia
  obtain ⟨yb, qb1, qb2⟩ := ib
  have pG : 35 ≤ x ∧ G x = some (.inr (9, [.int T.1, .int (nI T.2.1), .ref s1, .ref s2, .ref s3, .ref s4])) := ⟨p1.1, uG _ _ p1.2⟩
  show jx_T 95 0 [.ref 1, .int (nI k), .int (nI i), .int (nI o), .int (nI j), .int (nI n), .retAddr 0, .retAddr 0] [] _ _ _
  refine jx_T.step (pc' := 1) (st' := [_]) rfl rfl ?_
  refine jx_T.step (pc' := 2) (st' := [_, _]) rfl rfl ?_
  refine jx_T.step (pc' := 4) (st' := [_, _, _]) rfl rfl ?_
  refine cl.s3I rfl (by decide) rfl (Nat.le_of_ble_eq_true rfl) (Nat.le_of_ble_eq_true rfl) (kc_within _ _ _ _) ?_
  refine cl.br rfl (jx_br_eq _ _) (fun zq => absurd zq (fun q => (rf_o_0 _).mp q (rf_k8 hk))) (fun _ => ?_)
  refine jx_T.step (pc' := 11) (st' := [_]) rfl rfl ?_
  refine jx_T.step (pc' := 12) (st' := [_, _]) rfl rfl ?_
  refine jx_T.step (pc' := 14) (st' := [_, _, _]) rfl rfl ?_
  refine cl.s3I rfl (by decide) rfl (Nat.le_of_ble_eq_true rfl) (Nat.le_of_ble_eq_true rfl) (kc_within _ _ _ _) ?_
  refine cl.brn rfl (fun _ => ?_) (fun zq => absurd zq (fun q => (rf_o_0 _).mp q (rf_k8 ho)))
  refine jx_T.step (pc' := 24) (st' := [_]) rfl rfl ?_
  refine cl.br rfl (jx_br_lt _ _) (fun zq => absurd zq (nI_pos (by omega))) (fun _ => ?_)
  refine jx_T.step (pc' := 28) (st' := [_]) rfl rfl ?_
  refine cl.br rfl (jx_br_lt _ _) (fun zq => absurd zq (nI_pos (by omega))) (fun _ => ?_)
  refine jx_T.step (pc' := 33) (st' := [_]) rfl rfl ?_
  refine cl.br rfl (jx_br_ge _ _) (fun _ => ?_) (fun zq => absurd (nI_pos' (by omega)) zq)
  refine jx_T.step (pc' := 39) (st' := [_]) rfl rfl ?_
  refine cl.v0I (hc_fix 1 (by decide) (cw_c1 _)) rfl (by decide) rfl ⟨Nat.le_of_ble_eq_true rfl, rfl⟩ (Nat.le_of_ble_eq_true rfl) (cn) ?_
  refine cl.geti (p1).1 (p1).2 rfl rfl ?_
  refine jx_T.step (pc' := 46) (st' := [_, _]) rfl rfl ?_
  refine cl.aaldi (p4).1 (p4).2 rfl (by decide) (rf_ix (by omega) (by decide)) ?_
  rw [nI_clamp (by omega), ea]
  refine jx_T.step (pc' := 49) (ls' := [_, _, _, _, _, _, _, _]) (st' := []) rfl rfl ?_
  refine jx_T.step (pc' := 50) (st' := [_]) rfl rfl ?_
  refine cl.v0I (hc_fix 1 (by decide) (cw_c1 _)) rfl (by decide) rfl ⟨Nat.le_of_ble_eq_true rfl, rfl⟩ (Nat.le_of_ble_eq_true rfl) (cn) ?_
  refine cl.geti (p1).1 (p1).2 rfl rfl ?_
  refine jx_T.step (pc' := 57) (st' := [_, _]) rfl rfl ?_
  refine cl.aaldi (p4).1 (p4).2 rfl (by decide) (rf_ix (by omega) (by decide)) ?_
  rw [nI_clamp (by omega), eb]
  refine jx_T.step (pc' := 60) (ls' := [_, _, _, _, _, _, _, _]) (st' := []) rfl rfl ?_
  refine jx_T.step (pc' := 62) (st' := [_]) rfl rfl ?_
  refine jx_T.step (pc' := 65) (st' := []) rfl rfl ?_
  refine jx_T.step (pc' := 67) (st' := [_]) rfl rfl ?_
  refine jx_T.step (pc' := 72) (st' := []) rfl rfl ?_
  refine jx_T.step (pc' := 73) (st' := [_]) rfl rfl ?_
  refine jx_T.step (pc' := 74) (st' := [_]) rfl rfl ?_
  refine jx_T.step (pc' := 76) (st' := [_, _]) rfl rfl ?_
  refine jx_T.step (pc' := 77) (st' := [_, _]) rfl rfl ?_
  refine jx_T.step (pc' := 78) (st' := [_]) rfl rfl ?_
  refine jx_T.step (pc' := 80) (st' := [_, _]) rfl rfl ?_
  refine cl.geti (qa1).1 (qa1).2 rfl rfl ?_
  refine cl.aleni (qa2).1 (qa2).2 rfl (Or.inl (by decide)) ?_
  refine jx_T.step (pc' := 85) (st' := [_, _]) rfl rfl ?_
  refine jx_T.step (pc' := 86) (st' := [_]) rfl rfl ?_
  refine cl.br rfl (jx_br_gt _ _) (fun zq => absurd zq (fun q => by have := (rf_gt64 _ _).mp q; rw [rf_add64, rf_w, nI_toInt (by omega), nI_toInt (by omega), nI_toInt (by omega)] at this; omega)) (fun _ => ?_)
  refine jx_T.step (pc' := 91) (st' := [_]) rfl rfl ?_
  refine jx_T.step (pc' := 92) (st' := [_]) rfl rfl ?_
  refine jx_T.step (pc' := 94) (st' := [_, _]) rfl rfl ?_
  refine jx_T.step (pc' := 95) (st' := [_, _]) rfl rfl ?_
  refine jx_T.step (pc' := 96) (st' := [_]) rfl rfl ?_
  refine jx_T.step (pc' := 98) (st' := [_, _]) rfl rfl ?_
  refine cl.geti (qb1).1 (qb1).2 rfl rfl ?_
  refine cl.aleni (qb2).1 (qb2).2 rfl (Or.inl (by decide)) ?_
  refine jx_T.step (pc' := 103) (st' := [_, _]) rfl rfl ?_
  refine jx_T.step (pc' := 104) (st' := [_]) rfl rfl ?_
  refine cl.br rfl (jx_br_le _ _) (fun _ => ?_) (fun zq => absurd (Int32.not_lt.mp (fun q => by have := (rf_gt64 _ _).mp q; rw [rf_add64, rf_w, nI_toInt (by omega), nI_toInt (by omega), nI_toInt (by omega)] at this; omega)) zq)
  refine jx_T.step (pc' := 111) (st' := [_]) rfl rfl ?_
  refine cl.geti (qa1).1 (qa1).2 rfl rfl ?_
  refine jx_T.step (pc' := 116) (st' := [_, _]) rfl rfl ?_
  refine cl.geti (qb1).1 (qb1).2 rfl rfl ?_
  refine cl.bc rfl (jx_br_eq _ _) (fun _ => ?_) (fun zq => absurd (hfm) zq)
  refine jx_T.step (pc' := 126) (st' := [_]) rfl rfl ?_
  refine jx_T.step (pc' := 127) (st' := [_, _]) rfl rfl ?_
  refine cl.v0I (hc_fix 1 (by decide) (cw_c1 _)) rfl (by decide) rfl ⟨Nat.le_of_ble_eq_true rfl, rfl⟩ (Nat.le_of_ble_eq_true rfl) (cn) ?_
  refine jx_T.step (pc' := 131) (st' := [_, _, _]) rfl rfl ?_
  refine jx_T.step (pc' := 133) (st' := [_, _, _, _]) rfl rfl ?_
  refine jx_T.step (pc' := 135) (st' := [_, _, _, _, _]) rfl rfl ?_
  refine jx_T.step (pc' := 136) (st' := [_, _, _, _, _, _]) rfl rfl ?_
  refine jx_T.step (pc' := 138) (st' := [_, _, _, _, _, _, _]) rfl rfl ?_
  refine jx_T.step (pc' := 140) (st' := [_, _, _, _, _, _, _, _]) rfl rfl ?_
  refine cl.v4I (hc_imm (qb1).1 (qb1).2) rfl (by decide) rfl ⟨Nat.le_of_ble_eq_true rfl, rfl⟩ (Nat.le_of_ble_eq_true rfl) (cG) ?_
  refine cl.v2I (hc_imm (pG).1 (pG).2) rfl (by decide) rfl ⟨Nat.le_of_ble_eq_true rfl, rfl⟩ (Nat.le_of_ble_eq_true rfl) (c) ?_
  refine cl.v1I (hc_fix 1 (by decide) (cw_c1 _)) rfl (by decide) rfl ⟨Nat.le_of_ble_eq_true rfl, rfl⟩ (Nat.le_of_ble_eq_true rfl) (ca) ?_
  exact jx_T.ret rfl rfl
end
