/-! the works: copy's refusals 4, 5, 6 -/
section
variable {W : cw} {g : Nat → Option jx_E} {x : Nat} {T : tv} {nx s : Nat}
theorem kc_copy_4 (n0 : cl_now W g x T) (k o : Nat) (hk : k < 8) (ho : o < 8) (i j n : Int32) (hn : ¬ n < 0) (hi : ¬ i < 0) (hj : ¬ j < 0) (hs : T.2.2.2.1 k = none ∨ T.2.2.2.1 o = none) : jx_T 95 0 (jx_ent 95 [.ref 1, .int (nI k), .int i, .int (nI o), .int j, .int n]) [] (hc W g nx s) (some (.int 4)) (hc W g nx s) := by
  have cn := kc_now nx s n0
  obtain ⟨s1, s2, s3, s4, f1, f2, f3, p1, p2, p3, p4, p5, -⟩ := n0.2.1
  show jx_T 95 0 [.ref 1, .int (nI k), .int i, .int (nI o), .int j, .int n, .retAddr 0, .retAddr 0] [] _ _ _
  refine jx_T.step (pc' := 1) (st' := [_]) rfl rfl ?_
  refine jx_T.step (pc' := 2) (st' := [_, _]) rfl rfl ?_
  refine jx_T.step (pc' := 4) (st' := [_, _, _]) rfl rfl ?_
  refine cl.s3I rfl (by decide) rfl (Nat.le_of_ble_eq_true rfl) (Nat.le_of_ble_eq_true rfl) (kc_within _ _ _ _) ?_
  refine cl.br rfl (jx_br_eq _ _) (fun zq => absurd zq (fun q => (rf_o_0 _).mp q (rf_k8 hk))) (fun _ => ?_)
  refine jx_T.step (pc' := 11) (st' := [_]) rfl rfl ?_
  refine jx_T.step (pc' := 12) (st' := [_, _]) rfl rfl ?_
  refine jx_T.step (pc' := 14) (st' := [_, _, _]) rfl rfl ?_
  refine cl.s3I rfl (by decide) rfl (Nat.le_of_ble_eq_true rfl) (Nat.le_of_ble_eq_true rfl) (kc_within _ _ _ _) ?_
  refine cl.brn rfl (fun _ => ?_) (fun zq => absurd zq (fun q => (rf_o_0 _).mp q (rf_k8 ho)))
  refine jx_T.step (pc' := 24) (st' := [_]) rfl rfl ?_
  refine cl.br rfl (jx_br_lt _ _) (fun zq => absurd zq (hn)) (fun _ => ?_)
  refine jx_T.step (pc' := 28) (st' := [_]) rfl rfl ?_
  refine cl.br rfl (jx_br_lt _ _) (fun zq => absurd zq (hi)) (fun _ => ?_)
  refine jx_T.step (pc' := 33) (st' := [_]) rfl rfl ?_
  refine cl.br rfl (jx_br_ge _ _) (fun _ => ?_) (fun zq => absurd (Int32.not_lt.mp hj) zq)
  refine jx_T.step (pc' := 39) (st' := [_]) rfl rfl ?_
  refine cl.v0I (hc_fix 1 (by decide) (cw_c1 _)) rfl (by decide) rfl ⟨Nat.le_of_ble_eq_true rfl, rfl⟩ (Nat.le_of_ble_eq_true rfl) (cn) ?_
  refine cl.geti (p1).1 (p1).2 rfl rfl ?_
  refine jx_T.step (pc' := 46) (st' := [_, _]) rfl rfl ?_
  refine cl.aaldi (p4).1 (p4).2 rfl (by decide) (rf_ix (by omega) (by decide)) ?_
  rw [nI_clamp (by omega)]
  rcases p5 k hk with qk | ⟨Zk, bk, qk1, qk2, -⟩
  · rw [qk.2]
    refine jx_T.step (pc' := 49) (ls' := [_, _, _, _, _, _, _, _]) (st' := []) rfl rfl ?_
    refine jx_T.step (pc' := 50) (st' := [_]) rfl rfl ?_
    refine cl.v0I (hc_fix 1 (by decide) (cw_c1 _)) rfl (by decide) rfl ⟨Nat.le_of_ble_eq_true rfl, rfl⟩ (Nat.le_of_ble_eq_true rfl) (cn) ?_
    refine cl.geti (p1).1 (p1).2 rfl rfl ?_
    refine jx_T.step (pc' := 57) (st' := [_, _]) rfl rfl ?_
    refine cl.aaldi (p4).1 (p4).2 rfl (by decide) (rf_ix (by omega) (by decide)) ?_
    rw [nI_clamp (by omega)]
    rcases p5 o ho with qo | ⟨Zo, bo, qo1, qo2, -⟩
    · rw [qo.2]
      refine jx_T.step (pc' := 60) (ls' := [_, _, _, _, _, _, _, _]) (st' := []) rfl rfl ?_
      refine jx_T.step (pc' := 62) (st' := [_]) rfl rfl ?_
      refine jx_T.step (pc' := 70) (st' := []) rfl rfl ?_
      refine jx_T.step (pc' := 71) (st' := [_]) rfl rfl ?_
      exact jx_T.ret rfl rfl
    · rw [qo2]
      refine jx_T.step (pc' := 60) (ls' := [_, _, _, _, _, _, _, _]) (st' := []) rfl rfl ?_
      refine jx_T.step (pc' := 62) (st' := [_]) rfl rfl ?_
      refine jx_T.step (pc' := 70) (st' := []) rfl rfl ?_
      refine jx_T.step (pc' := 71) (st' := [_]) rfl rfl ?_
      exact jx_T.ret rfl rfl
  · rw [qk2]
    refine jx_T.step (pc' := 49) (ls' := [_, _, _, _, _, _, _, _]) (st' := []) rfl rfl ?_
    refine jx_T.step (pc' := 50) (st' := [_]) rfl rfl ?_
    refine cl.v0I (hc_fix 1 (by decide) (cw_c1 _)) rfl (by decide) rfl ⟨Nat.le_of_ble_eq_true rfl, rfl⟩ (Nat.le_of_ble_eq_true rfl) (cn) ?_
    refine cl.geti (p1).1 (p1).2 rfl rfl ?_
    refine jx_T.step (pc' := 57) (st' := [_, _]) rfl rfl ?_
    refine cl.aaldi (p4).1 (p4).2 rfl (by decide) (rf_ix (by omega) (by decide)) ?_
    rw [nI_clamp (by omega)]
    rcases p5 o ho with qo | ⟨Zo, bo, qo1, qo2, -⟩
    · rw [qo.2]
      refine jx_T.step (pc' := 60) (ls' := [_, _, _, _, _, _, _, _]) (st' := []) rfl rfl ?_
      refine jx_T.step (pc' := 62) (st' := [_]) rfl rfl ?_
      refine jx_T.step (pc' := 65) (st' := []) rfl rfl ?_
      refine jx_T.step (pc' := 67) (st' := [_]) rfl rfl ?_
      refine jx_T.step (pc' := 70) (st' := []) rfl rfl ?_
      refine jx_T.step (pc' := 71) (st' := [_]) rfl rfl ?_
      exact jx_T.ret rfl rfl
    · rw [qk1, qo1] at hs
      exact hs.elim (fun q => absurd q (by simp)) (fun q => absurd q (by simp))
theorem kc_copy_5 (n0 : cl_now W g x T) (k o : Nat) (hk : k < 8) (ho : o < 8) (i j n : Int32) (hn : ¬ n < 0) (hi : ¬ i < 0) (hj : ¬ j < 0) {X Z : shv} (hsk : T.2.2.2.1 k = some Z) (hso : T.2.2.2.1 o = some X) (hZ : Z.2.1 ≤ 16) (hX : X.2.1 ≤ 16) (hb : (Z.2.1 : Int) < i.toInt + n.toInt ∨ (X.2.1 : Int) < j.toInt + n.toInt) : jx_T 95 0 (jx_ent 95 [.ref 1, .int (nI k), .int i, .int (nI o), .int j, .int n]) [] (hc W g nx s) (some (.int 5)) (hc W g nx s) := by
  have cn := kc_now nx s n0
  obtain ⟨s1, s2, s3, s4, f1, f2, f3, p1, p2, p3, p4, p5, -⟩ := n0.2.1
  obtain ⟨a, ea, ya, qa1, qa2⟩ := im_sta.sheet p5 hk hsk
  obtain ⟨b, eb, yb, qb1, qb2⟩ := im_sta.sheet p5 ho hso
  show jx_T 95 0 [.ref 1, .int (nI k), .int i, .int (nI o), .int j, .int n, .retAddr 0, .retAddr 0] [] _ _ _
  refine jx_T.step (pc' := 1) (st' := [_]) rfl rfl ?_
  refine jx_T.step (pc' := 2) (st' := [_, _]) rfl rfl ?_
  refine jx_T.step (pc' := 4) (st' := [_, _, _]) rfl rfl ?_
  refine cl.s3I rfl (by decide) rfl (Nat.le_of_ble_eq_true rfl) (Nat.le_of_ble_eq_true rfl) (kc_within _ _ _ _) ?_
  refine cl.br rfl (jx_br_eq _ _) (fun zq => absurd zq (fun q => (rf_o_0 _).mp q (rf_k8 hk))) (fun _ => ?_)
  refine jx_T.step (pc' := 11) (st' := [_]) rfl rfl ?_
  refine jx_T.step (pc' := 12) (st' := [_, _]) rfl rfl ?_
  refine jx_T.step (pc' := 14) (st' := [_, _, _]) rfl rfl ?_
  refine cl.s3I rfl (by decide) rfl (Nat.le_of_ble_eq_true rfl) (Nat.le_of_ble_eq_true rfl) (kc_within _ _ _ _) ?_
  refine cl.brn rfl (fun _ => ?_) (fun zq => absurd zq (fun q => (rf_o_0 _).mp q (rf_k8 ho)))
  refine jx_T.step (pc' := 24) (st' := [_]) rfl rfl ?_
  refine cl.br rfl (jx_br_lt _ _) (fun zq => absurd zq (hn)) (fun _ => ?_)
  refine jx_T.step (pc' := 28) (st' := [_]) rfl rfl ?_
  refine cl.br rfl (jx_br_lt _ _) (fun zq => absurd zq (hi)) (fun _ => ?_)
  refine jx_T.step (pc' := 33) (st' := [_]) rfl rfl ?_
  refine cl.br rfl (jx_br_ge _ _) (fun _ => ?_) (fun zq => absurd (Int32.not_lt.mp hj) zq)
  refine jx_T.step (pc' := 39) (st' := [_]) rfl rfl ?_
  refine cl.v0I (hc_fix 1 (by decide) (cw_c1 _)) rfl (by decide) rfl ⟨Nat.le_of_ble_eq_true rfl, rfl⟩ (Nat.le_of_ble_eq_true rfl) (cn) ?_
  refine cl.geti (p1).1 (p1).2 rfl rfl ?_
  refine jx_T.step (pc' := 46) (st' := [_, _]) rfl rfl ?_
  refine cl.aaldi (p4).1 (p4).2 rfl (by decide) (rf_ix (by omega) (by decide)) ?_
  rw [nI_clamp (by omega), ea]
  refine jx_T.step (pc' := 49) (ls' := [_, _, _, _, _, _, _, _]) (st' := []) rfl rfl ?_
  refine jx_T.step (pc' := 50) (st' := [_]) rfl rfl ?_
  refine cl.v0I (hc_fix 1 (by decide) (cw_c1 _)) rfl (by decide) rfl ⟨Nat.le_of_ble_eq_true rfl, rfl⟩ (Nat.le_of_ble_eq_true rfl) (cn) ?_
  refine cl.geti (p1).1 (p1).2 rfl rfl ?_
  refine jx_T.step (pc' := 57) (st' := [_, _]) rfl rfl ?_
  refine cl.aaldi (p4).1 (p4).2 rfl (by decide) (rf_ix (by omega) (by decide)) ?_
  rw [nI_clamp (by omega), eb]
  refine jx_T.step (pc' := 60) (ls' := [_, _, _, _, _, _, _, _]) (st' := []) rfl rfl ?_
  refine jx_T.step (pc' := 62) (st' := [_]) rfl rfl ?_
  refine jx_T.step (pc' := 65) (st' := []) rfl rfl ?_
  refine jx_T.step (pc' := 67) (st' := [_]) rfl rfl ?_
  refine jx_T.step (pc' := 72) (st' := []) rfl rfl ?_
  refine jx_T.step (pc' := 73) (st' := [_]) rfl rfl ?_
  refine jx_T.step (pc' := 74) (st' := [_]) rfl rfl ?_
  refine jx_T.step (pc' := 76) (st' := [_, _]) rfl rfl ?_
  refine jx_T.step (pc' := 77) (st' := [_, _]) rfl rfl ?_
  refine jx_T.step (pc' := 78) (st' := [_]) rfl rfl ?_
  refine jx_T.step (pc' := 80) (st' := [_, _]) rfl rfl ?_
  refine cl.geti (qa1).1 (qa1).2 rfl rfl ?_
  refine cl.aleni (qa2).1 (qa2).2 rfl (Or.inl (by decide)) ?_
  refine jx_T.step (pc' := 85) (st' := [_, _]) rfl rfl ?_
  refine jx_T.step (pc' := 86) (st' := [_]) rfl rfl ?_
  by_cases z : (Z.2.1 : Int) < i.toInt + n.toInt
  · refine cl.br rfl (jx_br_gt _ _) (fun _ => ?_) (fun zq => absurd ((rf_gt64 _ _).mpr (by rw [rf_add64, rf_w, nI_toInt (by omega)]; exact z)) zq)
    refine jx_T.step (pc' := 108) (st' := [_]) rfl rfl ?_
    exact jx_T.ret rfl rfl
  · refine cl.br rfl (jx_br_gt _ _) (fun zq => absurd zq (fun q => by have := (rf_gt64 _ _).mp q; rw [rf_add64, rf_w, nI_toInt (by omega)] at this; omega)) (fun _ => ?_)
    refine jx_T.step (pc' := 91) (st' := [_]) rfl rfl ?_
    refine jx_T.step (pc' := 92) (st' := [_]) rfl rfl ?_
    refine jx_T.step (pc' := 94) (st' := [_, _]) rfl rfl ?_
    refine jx_T.step (pc' := 95) (st' := [_, _]) rfl rfl ?_
    refine jx_T.step (pc' := 96) (st' := [_]) rfl rfl ?_
    refine jx_T.step (pc' := 98) (st' := [_, _]) rfl rfl ?_
    refine cl.geti (qb1).1 (qb1).2 rfl rfl ?_
    refine cl.aleni (qb2).1 (qb2).2 rfl (Or.inl (by decide)) ?_
    refine jx_T.step (pc' := 103) (st' := [_, _]) rfl rfl ?_
    refine jx_T.step (pc' := 104) (st' := [_]) rfl rfl ?_
    refine cl.br rfl (jx_br_le _ _) (fun zq => absurd zq (Int32.not_le.mpr ((rf_gt64 _ _).mpr (by rw [rf_add64, rf_w, nI_toInt (by omega)]; omega)))) (fun _ => ?_)
    refine jx_T.step (pc' := 108) (st' := [_]) rfl rfl ?_
    exact jx_T.ret rfl rfl
theorem kc_copy_6 (n0 : cl_now W g x T) (k o : Nat) (hk : k < 8) (ho : o < 8) (i j n : Int32) (hn : ¬ n < 0) (hi : ¬ i < 0) (hj : ¬ j < 0) {X Z : shv} (hsk : T.2.2.2.1 k = some Z) (hso : T.2.2.2.1 o = some X) (hZ : Z.2.1 ≤ 16) (hX : X.2.1 ≤ 16) (hb : ¬ ((Z.2.1 : Int) < i.toInt + n.toInt ∨ (X.2.1 : Int) < j.toInt + n.toInt)) (hfm : ¬ Z.1 = X.1) : jx_T 95 0 (jx_ent 95 [.ref 1, .int (nI k), .int i, .int (nI o), .int j, .int n]) [] (hc W g nx s) (some (.int 6)) (hc W g nx s) := by
  have cn := kc_now nx s n0
  obtain ⟨s1, s2, s3, s4, f1, f2, f3, p1, p2, p3, p4, p5, -⟩ := n0.2.1
  obtain ⟨a, ea, ya, qa1, qa2⟩ := im_sta.sheet p5 hk hsk
  obtain ⟨b, eb, yb, qb1, qb2⟩ := im_sta.sheet p5 ho hso
  show jx_T 95 0 [.ref 1, .int (nI k), .int i, .int (nI o), .int j, .int n, .retAddr 0, .retAddr 0] [] _ _ _
  refine jx_T.step (pc' := 1) (st' := [_]) rfl rfl ?_
  refine jx_T.step (pc' := 2) (st' := [_, _]) rfl rfl ?_
  refine jx_T.step (pc' := 4) (st' := [_, _, _]) rfl rfl ?_
  refine cl.s3I rfl (by decide) rfl (Nat.le_of_ble_eq_true rfl) (Nat.le_of_ble_eq_true rfl) (kc_within _ _ _ _) ?_
  refine cl.br rfl (jx_br_eq _ _) (fun zq => absurd zq (fun q => (rf_o_0 _).mp q (rf_k8 hk))) (fun _ => ?_)
  refine jx_T.step (pc' := 11) (st' := [_]) rfl rfl ?_
  refine jx_T.step (pc' := 12) (st' := [_, _]) rfl rfl ?_
  refine jx_T.step (pc' := 14) (st' := [_, _, _]) rfl rfl ?_
  refine cl.s3I rfl (by decide) rfl (Nat.le_of_ble_eq_true rfl) (Nat.le_of_ble_eq_true rfl) (kc_within _ _ _ _) ?_
  refine cl.brn rfl (fun _ => ?_) (fun zq => absurd zq (fun q => (rf_o_0 _).mp q (rf_k8 ho)))
  refine jx_T.step (pc' := 24) (st' := [_]) rfl rfl ?_
  refine cl.br rfl (jx_br_lt _ _) (fun zq => absurd zq (hn)) (fun _ => ?_)
  refine jx_T.step (pc' := 28) (st' := [_]) rfl rfl ?_
  refine cl.br rfl (jx_br_lt _ _) (fun zq => absurd zq (hi)) (fun _ => ?_)
  refine jx_T.step (pc' := 33) (st' := [_]) rfl rfl ?_
  refine cl.br rfl (jx_br_ge _ _) (fun _ => ?_) (fun zq => absurd (Int32.not_lt.mp hj) zq)
  refine jx_T.step (pc' := 39) (st' := [_]) rfl rfl ?_
  refine cl.v0I (hc_fix 1 (by decide) (cw_c1 _)) rfl (by decide) rfl ⟨Nat.le_of_ble_eq_true rfl, rfl⟩ (Nat.le_of_ble_eq_true rfl) (cn) ?_
  refine cl.geti (p1).1 (p1).2 rfl rfl ?_
  refine jx_T.step (pc' := 46) (st' := [_, _]) rfl rfl ?_
  refine cl.aaldi (p4).1 (p4).2 rfl (by decide) (rf_ix (by omega) (by decide)) ?_
  rw [nI_clamp (by omega), ea]
  refine jx_T.step (pc' := 49) (ls' := [_, _, _, _, _, _, _, _]) (st' := []) rfl rfl ?_
  refine jx_T.step (pc' := 50) (st' := [_]) rfl rfl ?_
  refine cl.v0I (hc_fix 1 (by decide) (cw_c1 _)) rfl (by decide) rfl ⟨Nat.le_of_ble_eq_true rfl, rfl⟩ (Nat.le_of_ble_eq_true rfl) (cn) ?_
  refine cl.geti (p1).1 (p1).2 rfl rfl ?_
  refine jx_T.step (pc' := 57) (st' := [_, _]) rfl rfl ?_
  refine cl.aaldi (p4).1 (p4).2 rfl (by decide) (rf_ix (by omega) (by decide)) ?_
  rw [nI_clamp (by omega), eb]
  refine jx_T.step (pc' := 60) (ls' := [_, _, _, _, _, _, _, _]) (st' := []) rfl rfl ?_
  refine jx_T.step (pc' := 62) (st' := [_]) rfl rfl ?_
  refine jx_T.step (pc' := 65) (st' := []) rfl rfl ?_
  refine jx_T.step (pc' := 67) (st' := [_]) rfl rfl ?_
  refine jx_T.step (pc' := 72) (st' := []) rfl rfl ?_
  refine jx_T.step (pc' := 73) (st' := [_]) rfl rfl ?_
  refine jx_T.step (pc' := 74) (st' := [_]) rfl rfl ?_
  refine jx_T.step (pc' := 76) (st' := [_, _]) rfl rfl ?_
  refine jx_T.step (pc' := 77) (st' := [_, _]) rfl rfl ?_
  refine jx_T.step (pc' := 78) (st' := [_]) rfl rfl ?_
  refine jx_T.step (pc' := 80) (st' := [_, _]) rfl rfl ?_
  refine cl.geti (qa1).1 (qa1).2 rfl rfl ?_
  refine cl.aleni (qa2).1 (qa2).2 rfl (Or.inl (by decide)) ?_
  refine jx_T.step (pc' := 85) (st' := [_, _]) rfl rfl ?_
  refine jx_T.step (pc' := 86) (st' := [_]) rfl rfl ?_
  refine cl.br rfl (jx_br_gt _ _) (fun zq => absurd zq (fun q => by have := (rf_gt64 _ _).mp q; rw [rf_add64, rf_w, nI_toInt (by omega)] at this; omega)) (fun _ => ?_)
  refine jx_T.step (pc' := 91) (st' := [_]) rfl rfl ?_
  refine jx_T.step (pc' := 92) (st' := [_]) rfl rfl ?_
  refine jx_T.step (pc' := 94) (st' := [_, _]) rfl rfl ?_
  refine jx_T.step (pc' := 95) (st' := [_, _]) rfl rfl ?_
  refine jx_T.step (pc' := 96) (st' := [_]) rfl rfl ?_
  refine jx_T.step (pc' := 98) (st' := [_, _]) rfl rfl ?_
  refine cl.geti (qb1).1 (qb1).2 rfl rfl ?_
  refine cl.aleni (qb2).1 (qb2).2 rfl (Or.inl (by decide)) ?_
  refine jx_T.step (pc' := 103) (st' := [_, _]) rfl rfl ?_
  refine jx_T.step (pc' := 104) (st' := [_]) rfl rfl ?_
  refine cl.br rfl (jx_br_le _ _) (fun _ => ?_) (fun zq => absurd (Int32.not_lt.mp (fun q => by have := (rf_gt64 _ _).mp q; rw [rf_add64, rf_w, nI_toInt (by omega)] at this; omega)) zq)
  refine jx_T.step (pc' := 111) (st' := [_]) rfl rfl ?_
  refine cl.geti (qa1).1 (qa1).2 rfl rfl ?_
  refine jx_T.step (pc' := 116) (st' := [_, _]) rfl rfl ?_
  refine cl.geti (qb1).1 (qb1).2 rfl rfl ?_
  refine cl.bc rfl (jx_br_eq _ _) (fun zq => absurd zq (hfm)) (fun _ => ?_)
  refine jx_T.step (pc' := 124) (st' := [_]) rfl rfl ?_
  exact jx_T.ret rfl rfl
end
