/-! the works' judge: meetings -/
/-- a meeting as it stands in a net -/
abbrev hm_ok (T : tv) (X : nev) : Prop := ∀ m, m < X.1 → ∃ a c, a < T.2.1 ∧ c < T.2.1 ∧ X.2.1 m = nI a ∧ X.2.2.1 m = nI c
def hm_a (X : nev) (m : Nat) : Nat := (X.2.1 m).toNatClampNeg
def hm_c (X : nev) (m : Nat) : Nat := (X.2.2.1 m).toNatClampNeg
def hm_h (X : nev) (m : Nat) : Int64 := (X.2.2.2 m).toInt64
abbrev hm_1 (T : tv) (X : nev) (m : Nat) (u : Nat → Int64) : Prop := (sv_am (T.2.2.1 (hm_a X m))).toInt64 < u (hm_a X m) + hm_h X m ∨ (sv_am (T.2.2.1 (hm_c X m))).toInt64 < u (hm_c X m) + hm_h X m
def hm_d (T : tv) (X : nev) (m : Nat) (u : Nat → Int64) : Int32 := ld_at (T.2.2.1 (hm_a X m)) (T.2.2.1 (hm_c X m)) (pq_put (T.2.2.1 (hm_a X m)) (u (hm_a X m))) (pq_put (T.2.2.1 (hm_c X m)) (u (hm_c X m))) (hm_h X m)
theorem pq_put_le (S : sv) (x : Int64) : (pq_put S x).1 ≤ sv_n S := pq_it_le S _ _ (Nat.zero_le _)
section
variable {W : cw} {g : Nat → Option jx_E} {nx s x y : Nat} {T : tv} {X : nev}
theorem hm_ac (ok : hm_ok T X) (hM : T.2.1 ≤ 12) {m : Nat} (hm : m < X.1) : (hm_a X m < T.2.1 ∧ X.2.1 m = nI (hm_a X m)) ∧ (hm_c X m < T.2.1 ∧ X.2.2.1 m = nI (hm_c X m)) := by
  obtain ⟨a, c, h1, h2, h3, h4⟩ := ok m hm
  unfold hm_a hm_c
  rw [h3, h4, nI_clamp (by omega), nI_clamp (by omega)]
  exact ⟨⟨h1, rfl⟩, ⟨h2, rfl⟩⟩
theorem kc_sAt (im : im_sta g x T) (ok : tv_ok T) (j : Nat) (hj : j < T.2.1) : ∃ b, im_str g b (T.2.2.1 j) ∧ ∀ W : cw, jx_T 74 0 (jx_ent 74 [.ref x, .int (nI j)]) [] (hc W g nx s) (some (.ref b)) (hc W g nx s) := by
  have hM := ok.1
  obtain ⟨s1, s2, s3, s4, f1, f2, f3, p1, p2, p3, -⟩ := im
  obtain ⟨b, e, ib⟩ := p3 j hj
  refine ⟨b, ib, fun W => ?_⟩
  show jx_T 74 0 [.ref x, .int (nI j)] [] _ _ _
  refine jx_T.step (pc' := 1) (st' := [_]) rfl rfl ?_
  refine cl.br rfl (jx_br_lt _ _) (fun zq => absurd zq (nI_pos (by omega))) (fun _ => ?_)
  refine jx_T.step (pc' := 5) (st' := [_]) rfl rfl ?_
  refine jx_T.step (pc' := 6) (st' := [_, _]) rfl rfl ?_
  refine cl.geti (p1).1 (p1).2 rfl rfl ?_
  refine cl.bc rfl (jx_br_ge _ _) (fun zq => absurd zq (nI_ge hj (by omega))) (fun _ => ?_)
  refine jx_T.step (pc' := 13) (st' := [_]) rfl rfl ?_
  refine cl.geti (p1).1 (p1).2 rfl rfl ?_
  refine jx_T.step (pc' := 17) (st' := [_, _]) rfl rfl ?_
  refine cl.aaldi (p2).1 (p2).2 rfl (by decide) (rf_ix (by omega) (by decide)) ?_
  rw [nI_clamp (by omega), e]
  refine jx_T.step (pc' := 22) (st' := [_]) rfl rfl ?_
  exact jx_T.ret rfl rfl
theorem kc_hearM (im : im_sta g x T) (ok : tv_ok T) (iy : im_net g y X) (hX : X.1 ≤ 20) (hm : hm_ok T X) (m : Nat) (h : m < X.1) (u : Nat → Int64) (hu : ∀ k, k < 12 → W.2.1 11 k = u k) : ∃ W2, jx_T 20 0 (jx_ent 20 [.ref 10, .ref x, .ref y, .int (nI m)]) [] (hc W g nx s) (some (.int (if hm_1 T X m u then 1 else if hm_d T X m u < 1000 * T.1 then 2 else 0))) (hc W2 g nx s) ∧ kj_f W W2 ∧ (∀ z, W2.2.2.1 10 z = W.2.2.1 10 z) ∧ (¬ hm_1 T X m u → (∀ k, k < 12 → W2.2.1 11 k = jd_g u (hm_a X m) (hm_c X m) (hm_h X m) k) ∧ W2.1 12 m = hm_d T X m u ∧ ∀ k, k ≠ m → W2.1 12 k = W.1 12 k) ∧ (hm_1 T X m u → W2 = W) := by
  have hM := ok.1
  obtain ⟨⟨ha, ea⟩, hc2, ec⟩ := hm_ac hm hM h
  obtain ⟨ba, ia, ca⟩ := kc_sAt (nx := nx) (s := s) im ok (hm_a X m) ha
  obtain ⟨bc, ic, cc⟩ := kc_sAt (nx := nx) (s := s) im ok (hm_c X m) hc2
  obtain ⟨s1, s2, s3, s4, f1, f2, f3, p1, -⟩ := im
  obtain ⟨b1, b2, b3, n0, n1, n2, n3⟩ := iy
  have na := ok.2 _ ha
  have nc := ok.2 _ hc2
  have ia0 := ia
  have ic0 := ic
  obtain ⟨ad, af, r1, -⟩ := ia
  obtain ⟨bd, bf, r2, -⟩ := ic
  have head : ∀ {v : Option Value} {h2 : jx_H}, jx_T 20 61 [.ref 10, .ref x, .ref y, .int (nI m), .int (nI (hm_a X m)), .int (nI (hm_c X m)), .long (hm_h X m), .retAddr 0, .ref ba, .ref bc] [.long (u (hm_a X m) + hm_h X m)] (hc W g nx s) v h2 → jx_T 20 0 (jx_ent 20 [.ref 10, .ref x, .ref y, .int (nI m)]) [] (hc W g nx s) v h2 := by
    intro v h2 t
    show jx_T 20 0 [.ref 10, .ref x, .ref y, .int (nI m), .retAddr 0, .retAddr 0, .retAddr 0, .retAddr 0, .retAddr 0, .retAddr 0] [] _ _ _
    refine jx_T.step (pc' := 1) (st' := [_]) rfl rfl ?_
    refine cl.geti (n0).1 (n0).2 rfl rfl ?_
    refine jx_T.step (pc' := 5) (st' := [_, _]) rfl rfl ?_
    refine cl.ialdi (n1).1 (n1).2 rfl (rf_ix h (by omega)) ?_
    rw [nI_clamp (by omega), ea]
    refine jx_T.step (pc' := 8) (ls' := [_, _, _, _, _, _, _, _, _, _]) (st' := []) rfl rfl ?_
    refine jx_T.step (pc' := 9) (st' := [_]) rfl rfl ?_
    refine cl.geti (n0).1 (n0).2 rfl rfl ?_
    refine jx_T.step (pc' := 13) (st' := [_, _]) rfl rfl ?_
    refine cl.ialdi (n2).1 (n2).2 rfl (rf_ix h (by omega)) ?_
    rw [nI_clamp (by omega), ec]
    refine jx_T.step (pc' := 16) (ls' := [_, _, _, _, _, _, _, _, _, _]) (st' := []) rfl rfl ?_
    refine jx_T.step (pc' := 17) (st' := [_]) rfl rfl ?_
    refine cl.geti (n0).1 (n0).2 rfl rfl ?_
    refine jx_T.step (pc' := 21) (st' := [_, _]) rfl rfl ?_
    refine cl.ialdi (n3).1 (n3).2 rfl (rf_ix h (by omega)) ?_
    rw [nI_clamp (by omega)]
    refine jx_T.step (pc' := 23) (st' := [_]) rfl rfl ?_
    refine jx_T.step (pc' := 25) (ls' := [_, _, _, _, _, _, _, _, _, _]) (st' := []) rfl rfl ?_
    refine jx_T.step (pc' := 26) (st' := [_]) rfl rfl ?_
    refine jx_T.step (pc' := 28) (st' := [_, _]) rfl rfl ?_
    refine cl.v1I (hc_imm (p1).1 (p1).2) rfl (by decide) rfl ⟨Nat.le_of_ble_eq_true rfl, rfl⟩ (Nat.le_of_ble_eq_true rfl) (ca _) ?_
    refine jx_T.step (pc' := 33) (ls' := [_, _, _, _, _, _, _, _, _, _]) (st' := []) rfl rfl ?_
    refine jx_T.step (pc' := 34) (st' := [_]) rfl rfl ?_
    refine jx_T.step (pc' := 36) (st' := [_, _]) rfl rfl ?_
    refine cl.v1I (hc_imm (p1).1 (p1).2) rfl (by decide) rfl ⟨Nat.le_of_ble_eq_true rfl, rfl⟩ (Nat.le_of_ble_eq_true rfl) (cc _) ?_
    refine jx_T.step (pc' := 41) (ls' := [_, _, _, _, _, _, _, _, _, _]) (st' := []) rfl rfl ?_
    refine jx_T.step (pc' := 43) (st' := [_]) rfl rfl ?_
    refine jx_T.step (pc' := 46) (st' := []) rfl rfl ?_
    refine jx_T.step (pc' := 48) (st' := [_]) rfl rfl ?_
    refine jx_T.step (pc' := 51) (st' := []) rfl rfl ?_
    refine jx_T.step (pc' := 52) (st' := [_]) rfl rfl ?_
    refine cl.get 10 (by decide) rfl (cw_c10 _) rfl ?_
    refine jx_T.step (pc' := 57) (st' := [_, _]) rfl rfl ?_
    refine cl.lald 11 (by decide) rfl (cw_c11 _) (rf_ix (by omega) (by decide)) ?_
    rw [nI_clamp (by omega), hu _ (by omega)]
    refine jx_T.step (pc' := 60) (st' := [_, _]) rfl rfl ?_
    refine jx_T.step (pc' := 61) (st' := [_]) rfl rfl ?_
    exact t
  by_cases z1 : (sv_am (T.2.2.1 (hm_a X m))).toInt64 < u (hm_a X m) + hm_h X m
  · refine ⟨W, head ?_, kj_f.rf, fun _ => rfl, fun q => absurd (Or.inl z1) q, fun _ => rfl⟩
    rw [if_pos (Or.inl z1)]
    refine jx_T.step (pc' := 63) (st' := [_, _]) rfl rfl ?_
    refine cl.geti (r1).1 (r1).2 rfl rfl ?_
    refine jx_T.step (pc' := 67) (st' := [_, _]) rfl rfl ?_
    refine jx_T.step (pc' := 68) (st' := [_]) rfl rfl ?_
    refine cl.br rfl (jx_br_gt _ _) (fun _ => ?_) (fun zq => absurd ((lg_cmp_gt0 _ _).mpr z1) zq)
    refine jx_T.step (pc' := 92) (st' := [_]) rfl rfl ?_
    exact jx_T.ret rfl rfl
  have on : ∀ {v : Option Value} {h2 : jx_H}, jx_T 20 88 [.ref 10, .ref x, .ref y, .int (nI m), .int (nI (hm_a X m)), .int (nI (hm_c X m)), .long (hm_h X m), .retAddr 0, .ref ba, .ref bc] [.int (lg_cmp (u (hm_c X m) + hm_h X m) (sv_am (T.2.2.1 (hm_c X m))).toInt64)] (hc W g nx s) v h2 → jx_T 20 0 (jx_ent 20 [.ref 10, .ref x, .ref y, .int (nI m)]) [] (hc W g nx s) v h2 := by
    intro v h2 t
    refine head ?_
    refine jx_T.step (pc' := 63) (st' := [_, _]) rfl rfl ?_
    refine cl.geti (r1).1 (r1).2 rfl rfl ?_
    refine jx_T.step (pc' := 67) (st' := [_, _]) rfl rfl ?_
    refine jx_T.step (pc' := 68) (st' := [_]) rfl rfl ?_
    refine cl.br rfl (jx_br_gt _ _) (fun zq => absurd zq (fun q => z1 ((lg_cmp_gt0 _ _).mp q))) (fun _ => ?_)
    refine jx_T.step (pc' := 72) (st' := [_]) rfl rfl ?_
    refine cl.get 10 (by decide) rfl (cw_c10 _) rfl ?_
    refine jx_T.step (pc' := 77) (st' := [_, _]) rfl rfl ?_
    refine cl.lald 11 (by decide) rfl (cw_c11 _) (rf_ix (by omega) (by decide)) ?_
    rw [nI_clamp (by omega), hu _ (by omega)]
    refine jx_T.step (pc' := 80) (st' := [_, _]) rfl rfl ?_
    refine jx_T.step (pc' := 81) (st' := [_]) rfl rfl ?_
    refine jx_T.step (pc' := 83) (st' := [_, _]) rfl rfl ?_
    refine cl.geti (r2).1 (r2).2 rfl rfl ?_
    refine jx_T.step (pc' := 87) (st' := [_, _]) rfl rfl ?_
    refine jx_T.step (pc' := 88) (st' := [_]) rfl rfl ?_
    exact t
  by_cases z2 : (sv_am (T.2.2.1 (hm_c X m))).toInt64 < u (hm_c X m) + hm_h X m
  · refine ⟨W, on ?_, kj_f.rf, fun _ => rfl, fun q => absurd (Or.inr z2) q, fun _ => rfl⟩
    rw [if_pos (Or.inr z2)]
    refine cl.br rfl (jx_br_le _ _) (fun zq => absurd zq (Int32.not_le.mpr ((lg_cmp_gt0 _ _).mpr z2))) (fun _ => ?_)
    refine jx_T.step (pc' := 92) (st' := [_]) rfl rfl ?_
    exact jx_T.ret rfl rfl
  have z : ¬ hm_1 T X m u := fun q => q.elim z1 z2
  obtain ⟨W1, c1, K1, g1⟩ := kc_put13 (nx := nx) (s := s) W ia0 na (u (hm_a X m))
  obtain ⟨W2, c2, L2, g2⟩ := kc_put14 (nx := nx) (s := s) W1 ic0 nc (u (hm_c X m))
  have K2 := g2.k13 K1
  obtain ⟨W3, c3, g3⟩ := kc_leastDist (nx := nx) (s := s) ia0 ic0 na nc K2 L2 (pq_put_le _ _) (pq_put_le _ _) (hm_h X m)
  have P : kr_p W W3 := (g1.P.tr g2.P).tr g3
  have u1 : ∀ k, k < 12 → W1.2.1 11 k = u k := fun k hk => by rw [g1.2.1]; exact hu k hk
  have u3 : ∀ k, k < 12 → W3.2.1 11 k = u k := fun k hk => by rw [P.2.1]; exact hu k hk
  obtain ⟨W4, e4⟩ : ∃ W4, W4 = cw_A W3 12 (upd (W3.1 12) m (hm_d T X m u)) := ⟨_, rfl⟩
  have b4 : W4.2.1 11 = W3.2.1 11 := by rw [e4]; rfl
  obtain ⟨W5, e5⟩ : ∃ W5, W5 = cw_B W4 11 (vp_updL (W4.2.1 11) (hm_a X m) (u (hm_a X m) + hm_h X m)) := ⟨_, rfl⟩
  have b5 : W5.2.1 11 = vp_updL (W3.2.1 11) (hm_a X m) (u (hm_a X m) + hm_h X m) := by rw [e5, b4]; exact cw_Be _ _ _
  have v5 : ∀ k, k < 12 → W5.2.1 11 k = vp_updL u (hm_a X m) (u (hm_a X m) + hm_h X m) k := fun k hk => by
    rw [b5]
    unfold vp_updL
    by_cases e : k = hm_a X m
    · rw [if_pos e, if_pos e]
    · rw [if_neg e, if_neg e]
      exact u3 k hk
  obtain ⟨W6, e6⟩ : ∃ W6, W6 = cw_B W5 11 (vp_updL (W5.2.1 11) (hm_c X m) (vp_updL u (hm_a X m) (u (hm_a X m) + hm_h X m) (hm_c X m) + hm_h X m)) := ⟨_, rfl⟩
  have b6 : W6.2.1 11 = vp_updL (W5.2.1 11) (hm_c X m) (vp_updL u (hm_a X m) (u (hm_a X m) + hm_h X m) (hm_c X m) + hm_h X m) := by rw [e6]; exact cw_Be _ _ _
  have a6 : W6.1 12 = upd (W3.1 12) m (hm_d T X m u) := by rw [e6, e5, e4]; exact cw_Ae W3 12 _
  have i6 : W6.2.2 = W3.2.2 := by rw [e6, e5, e4]; rfl
  have J6 : kj_f W3 W6 := by
    rw [e6, e5, e4]
    exact ⟨fun k hk => cw_An _ _ _ hk, fun k hk => (cw_Bn _ _ _ hk).trans (cw_Bn _ _ _ hk), fun _ _ _ _ _ => rfl, fun _ _ _ _ _ => rfl, rfl⟩
  refine ⟨W6, on ?_, P.J.tr J6, fun q => ?_, fun _ => ⟨fun k hk => ?_, ?_, fun k hk => ?_⟩, fun q => absurd q z⟩
  · rw [if_neg z]
    refine cl.br rfl (jx_br_le _ _) (fun _ => ?_) (fun zq => absurd (Int32.not_lt.mp (fun q => z2 ((lg_cmp_gt0 _ _).mp q))) zq)
    refine jx_T.step (pc' := 94) (st' := [_]) rfl rfl ?_
    refine cl.get 10 (by decide) rfl (cw_c10 _) rfl ?_
    refine jx_T.step (pc' := 99) (st' := [_, _]) rfl rfl ?_
    refine jx_T.step (pc' := 100) (st' := [_, _, _]) rfl rfl ?_
    refine cl.get 10 (by decide) rfl (cw_c10 _) rfl ?_
    refine jx_T.step (pc' := 105) (st' := [_, _, _, _]) rfl rfl ?_
    refine cl.lald 11 (by decide) rfl (cw_c11 _) (rf_ix (by omega) (by decide)) ?_
    rw [nI_clamp (by omega), hu _ (by omega)]
    refine cl.v2V (hc_fix 13 (by decide) (cw_c13 _)) rfl (by decide) rfl ⟨Nat.le_of_ble_eq_true rfl, rfl⟩ (Nat.le_of_ble_eq_true rfl) (c1) ?_
    refine jx_T.step (pc' := 110) (st' := [_]) rfl rfl ?_
    refine cl.get 10 (by decide) rfl (cw_c10 _) rfl ?_
    refine jx_T.step (pc' := 115) (st' := [_, _]) rfl rfl ?_
    refine jx_T.step (pc' := 116) (st' := [_, _, _]) rfl rfl ?_
    refine cl.get 10 (by decide) rfl (cw_c10 _) rfl ?_
    refine jx_T.step (pc' := 121) (st' := [_, _, _, _]) rfl rfl ?_
    refine cl.lald 11 (by decide) rfl (cw_c11 _) (rf_ix (by omega) (by decide)) ?_
    rw [nI_clamp (by omega), u1 _ (by omega)]
    refine cl.v2V (hc_fix 14 (by decide) (cw_c14 _)) rfl (by decide) rfl ⟨Nat.le_of_ble_eq_true rfl, rfl⟩ (Nat.le_of_ble_eq_true rfl) (c2) ?_
    refine jx_T.step (pc' := 126) (st' := [_]) rfl rfl ?_
    refine cl.get 10 (by decide) rfl (cw_c10 _) rfl ?_
    refine jx_T.step (pc' := 130) (st' := [_, _]) rfl rfl ?_
    refine jx_T.step (pc' := 131) (st' := [_, _, _]) rfl rfl ?_
    refine jx_T.step (pc' := 133) (st' := [_, _, _, _]) rfl rfl ?_
    refine cl.v1I (hc_fix 10 (by decide) (cw_c10 _)) rfl (by decide) rfl ⟨Nat.le_of_ble_eq_true rfl, rfl⟩ (Nat.le_of_ble_eq_true rfl) (c3) ?_
    show jx_T 20 136 _ [.int (hm_d T X m u), .int (nI m), .ref 12] _ _ _
    refine cl.iast 12 (by decide) rfl (cw_c12 _) (cw_s12 _) (rf_ix (by omega) (by decide)) ?_
    rw [nI_clamp (by omega), ← e4]
    refine jx_T.step (pc' := 138) (st' := [_]) rfl rfl ?_
    refine cl.get 10 (by decide) rfl (cw_c10 _) rfl ?_
    refine jx_T.step (pc' := 143) (st' := [_, _]) rfl rfl ?_
    refine jx_T.step (pc' := 144) (st' := [_, _, _, _]) rfl rfl ?_
    refine cl.lald 11 (by decide) rfl (cw_c11 _) (rf_ix (by omega) (by decide)) ?_
    rw [nI_clamp (by omega), b4, u3 _ (by omega)]
    refine jx_T.step (pc' := 147) (st' := [_, _, _, _]) rfl rfl ?_
    refine jx_T.step (pc' := 148) (st' := [_, _, _]) rfl rfl ?_
    refine cl.last 11 (by decide) rfl (cw_c11 _) (cw_s11 _) (rf_ix (by omega) (by decide)) ?_
    rw [nI_clamp (by omega), ← e5]
    refine jx_T.step (pc' := 150) (st' := [_]) rfl rfl ?_
    refine cl.get 10 (by decide) rfl (cw_c10 _) rfl ?_
    refine jx_T.step (pc' := 155) (st' := [_, _]) rfl rfl ?_
    refine jx_T.step (pc' := 156) (st' := [_, _, _, _]) rfl rfl ?_
    refine cl.lald 11 (by decide) rfl (cw_c11 _) (rf_ix (by omega) (by decide)) ?_
    rw [nI_clamp (by omega), v5 _ (by omega)]
    refine jx_T.step (pc' := 159) (st' := [_, _, _, _]) rfl rfl ?_
    refine jx_T.step (pc' := 160) (st' := [_, _, _]) rfl rfl ?_
    refine cl.last 11 (by decide) rfl (cw_c11 _) (cw_s11 _) (rf_ix (by omega) (by decide)) ?_
    rw [nI_clamp (by omega), ← e6]
    refine jx_T.step (pc' := 162) (st' := [_]) rfl rfl ?_
    refine cl.get 10 (by decide) rfl (cw_c10 _) rfl ?_
    refine jx_T.step (pc' := 166) (st' := [_, _]) rfl rfl ?_
    refine cl.iald 12 (by decide) rfl (cw_c12 _) (rf_ix (by omega) (by decide)) ?_
    rw [nI_clamp (by omega), a6, show upd (W3.1 12) m (hm_d T X m u) m = hm_d T X m u from if_pos rfl]
    refine jx_T.step (pc' := 170) (st' := [_, _]) rfl rfl ?_
    refine jx_T.step (pc' := 171) (st' := [_, _, _]) rfl rfl ?_
    refine cl.geti (p1).1 (p1).2 rfl rfl ?_
    refine jx_T.step (pc' := 175) (st' := [_, _]) rfl rfl ?_
    by_cases w : hm_d T X m u < 1000 * T.1
    · rw [if_pos w]
      refine cl.bc rfl (jx_br_ge _ _) (fun zq => absurd zq (Int32.not_le.mpr w)) (fun _ => ?_)
      refine jx_T.step (pc' := 179) (st' := [_]) rfl rfl ?_
      refine jx_T.step (pc' := 183) (st' := [_]) rfl rfl ?_
      exact jx_T.ret rfl rfl
    · rw [if_neg w]
      refine cl.bc rfl (jx_br_ge _ _) (fun _ => ?_) (fun zq => absurd (Int32.not_lt.mp w) zq)
      refine jx_T.step (pc' := 183) (st' := [_]) rfl rfl ?_
      exact jx_T.ret rfl rfl
  · rw [i6]
    exact P.2.2.1 10 q (by decide) (by decide)
  · rw [b6]
    unfold jd_g
    show vp_updL _ _ _ k = vp_updL _ _ _ k
    unfold vp_updL
    by_cases e : k = hm_c X m
    · rw [if_pos e, if_pos e]
    · rw [if_neg e, if_neg e]
      exact v5 k hk
  · rw [a6]
    exact if_pos rfl
  · rw [a6]
    show (if k = m then _ else W3.1 12 k) = _
    rw [if_neg hk, P.1]
def cl_s (T : tv) (u : Nat → Int64) : Nat → Int64 × Int64
  | 0 => (0, 0)
  | i + 1 => if (T.2.2.1 i).1 = 3 ∨ (T.2.2.1 i).1 = 4 then cl_s T u i else if sv_hot (T.2.2.1 i) = 0 then ((cl_s T u i).1 + ((sv_am (T.2.2.1 i)).toInt64 - u i), (cl_s T u i).2) else ((cl_s T u i).1, (cl_s T u i).2 + ((sv_am (T.2.2.1 i)).toInt64 - u i))
theorem kj_f.L {W : cw} {y : Nat} {v : Int64} : kj_f W (cw_L W 10 y v) := ⟨fun _ _ => rfl, fun _ _ => rfl, fun _ _ _ _ _ => rfl, fun k z h _ _ => if_neg (fun q => h q.1), rfl⟩
theorem kj_f.I {W : cw} {y : Nat} {v : Int32} : kj_f W (cw_I W 10 y v) := ⟨fun _ _ => rfl, fun _ _ => rfl, fun k z h _ _ => if_neg (fun q => h q.1), fun _ _ _ _ _ => rfl, rfl⟩
theorem kc_countLeft (W : cw) (im : im_sta g x T) (ok : tv_ok T) (u : Nat → Int64) (hu : ∀ k, k < 12 → W.2.1 11 k = u k) : ∃ W2, jx_T 23 0 (jx_ent 23 [.ref 10, .ref x]) [] (hc W g nx s) none (hc W2 g nx s) ∧ kj_f W W2 ∧ W2.1 = W.1 ∧ W2.2.2.1 = W.2.2.1 ∧ W2.2.2.2.1 10 6 = (cl_s T u T.2.1).1 ∧ W2.2.2.2.1 10 7 = (cl_s T u T.2.1).2 := by
  have hM := ok.1
  obtain ⟨s1, s2, s3, s4, f1, f2, f3, h1, h2, h3, -⟩ := im
  have loop : ∀ d i (W1 : cw) (u3 u4 u5 : Value), i + d = T.2.1 → kj_f W W1 → W1.1 = W.1 → W1.2.1 = W.2.1 → W1.2.2.1 = W.2.2.1 → W1.2.2.2.1 10 6 = (cl_s T u i).1 → W1.2.2.2.1 10 7 = (cl_s T u i).2 → ∃ W2, jx_T 23 12 [.ref 10, .ref x, .int (nI i), u3, u4, u5] [] (hc W1 g nx s) none (hc W2 g nx s) ∧ kj_f W W2 ∧ W2.1 = W.1 ∧ W2.2.2.1 = W.2.2.1 ∧ W2.2.2.2.1 10 6 = (cl_s T u T.2.1).1 ∧ W2.2.2.2.1 10 7 = (cl_s T u T.2.1).2 := by
    intro d
    induction d with
    | zero =>
      intro i W1 u3 u4 u5 hi f e1 e2 e3 l6 l7
      obtain rfl : i = T.2.1 := by omega
      refine ⟨W1, ?_, f, e1, e3, l6, l7⟩
      refine jx_T.step (pc' := 13) (st' := [_]) rfl rfl ?_
      refine jx_T.step (pc' := 14) (st' := [_, _]) rfl rfl ?_
      refine cl.geti (h1).1 (h1).2 rfl rfl ?_
      refine cl.bc rfl (jx_br_ge _ _) (fun _ => ?_) (fun zq => absurd (Int32.le_refl _) zq)
      exact jx_T.ret rfl rfl
    | succ d ih =>
      intro i W1 u3 u4 u5 hi f e1 e2 e3 l6 l7
      obtain ⟨e, ee, imb⟩ := h3 i (by omega)
      have cb := kc_isBought W1 nx s imb
      obtain ⟨ad, af, q1, q2, q3⟩ := imb
      have es : cl_s T u (i + 1) = if (T.2.2.1 i).1 = 3 ∨ (T.2.2.1 i).1 = 4 then cl_s T u i else if sv_hot (T.2.2.1 i) = 0 then ((cl_s T u i).1 + ((sv_am (T.2.2.1 i)).toInt64 - u i), (cl_s T u i).2) else ((cl_s T u i).1, (cl_s T u i).2 + ((sv_am (T.2.2.1 i)).toInt64 - u i)) := rfl
      by_cases zb : (T.2.2.1 i).1 = 3 ∨ (T.2.2.1 i).1 = 4
      · rw [if_pos zb] at es
        obtain ⟨W2, t, r⟩ := ih (i + 1) W1 (.ref e) u4 u5 (by omega) f e1 e2 e3 (by rw [es]; exact l6) (by rw [es]; exact l7)
        refine ⟨W2, ?_, r⟩
        refine jx_T.step (pc' := 13) (st' := [_]) rfl rfl ?_
        refine jx_T.step (pc' := 14) (st' := [_, _]) rfl rfl ?_
        refine cl.geti (h1).1 (h1).2 rfl rfl ?_
        refine cl.bc rfl (jx_br_ge _ _) (fun zq => absurd zq (nI_ge (by omega) (by omega))) (fun _ => ?_)
        refine jx_T.step (pc' := 21) (st' := [_]) rfl rfl ?_
        refine cl.geti (h1).1 (h1).2 rfl rfl ?_
        refine jx_T.step (pc' := 25) (st' := [_, _]) rfl rfl ?_
        refine cl.aaldi (h2).1 (h2).2 rfl (by decide) (rf_ix (by omega) (by decide)) ?_
        rw [nI_clamp (by omega), ee]
        refine jx_T.step (pc' := 27) (ls' := [_, _, _, _, _, _]) (st' := []) rfl rfl ?_
        refine jx_T.step (pc' := 28) (st' := [_]) rfl rfl ?_
        refine cl.v0I (hc_imm (q1).1 (q1).2) rfl (by decide) rfl ⟨Nat.le_of_ble_eq_true rfl, rfl⟩ (Nat.le_of_ble_eq_true rfl) (cb) ?_
        refine cl.brn rfl (fun _ => ?_) (fun zq => absurd zq (fun q => (rf_o_0 _).mp q zb))
        refine jx_T.step (pc' := 95) (ls' := [_, _, _, _, _, _]) (st' := []) rfl rfl ?_
        refine jx_T.step (pc' := 12) (st' := []) rfl rfl ?_
        rw [nI_1]
        exact t
      · rw [if_neg zb] at es
        by_cases zh : sv_hot (T.2.2.1 i) = 0
        · rw [if_pos zh] at es
          obtain ⟨W2, t, r⟩ := ih (i + 1) (cw_L (cw_L W1 10 6 ((cl_s T u i).1 + ((sv_am (T.2.2.1 i)).toInt64 - u i))) 10 7 (cl_s T u i).2) (.ref e) (.long ((sv_am (T.2.2.1 i)).toInt64 - u i)) (.retAddr 0) (by omega) (f.tr (kj_f.L.tr kj_f.L)) e1 e2 e3 (by rw [es]; rfl) (by rw [es]; rfl)
          refine ⟨W2, ?_, r⟩
          have a7 : ∀ v, (cw_L W1 10 6 v).2.2.2.1 10 7 = (cl_s T u i).2 := fun _ => l7
          refine jx_T.step (pc' := 13) (st' := [_]) rfl rfl ?_
          refine jx_T.step (pc' := 14) (st' := [_, _]) rfl rfl ?_
          refine cl.geti (h1).1 (h1).2 rfl rfl ?_
          refine cl.bc rfl (jx_br_ge _ _) (fun zq => absurd zq (nI_ge (by omega) (by omega))) (fun _ => ?_)
          refine jx_T.step (pc' := 21) (st' := [_]) rfl rfl ?_
          refine cl.geti (h1).1 (h1).2 rfl rfl ?_
          refine jx_T.step (pc' := 25) (st' := [_, _]) rfl rfl ?_
          refine cl.aaldi (h2).1 (h2).2 rfl (by decide) (rf_ix (by omega) (by decide)) ?_
          rw [nI_clamp (by omega), ee]
          refine jx_T.step (pc' := 27) (ls' := [_, _, _, _, _, _]) (st' := []) rfl rfl ?_
          refine jx_T.step (pc' := 28) (st' := [_]) rfl rfl ?_
          refine cl.v0I (hc_imm (q1).1 (q1).2) rfl (by decide) rfl ⟨Nat.le_of_ble_eq_true rfl, rfl⟩ (Nat.le_of_ble_eq_true rfl) (cb) ?_
          refine cl.brn rfl (fun zq => absurd ((rf_o_0 _).mpr zb) zq) (fun _ => ?_)
          refine jx_T.step (pc' := 35) (st' := [_]) rfl rfl ?_
          refine cl.geti (q1).1 (q1).2 rfl rfl ?_
          refine jx_T.step (pc' := 39) (st' := [_]) rfl rfl ?_
          refine jx_T.step (pc' := 40) (st' := [_, _]) rfl rfl ?_
          refine cl.get 10 (by decide) rfl (cw_c10 _) rfl ?_
          refine jx_T.step (pc' := 44) (st' := [_, _, _]) rfl rfl ?_
          refine cl.lald 11 (by decide) rfl (cw_c11 _) (rf_ix (by omega) (by decide)) ?_
          rw [nI_clamp (by omega), e2, hu _ (by omega)]
          refine jx_T.step (pc' := 46) (st' := [_]) rfl rfl ?_
          refine jx_T.step (pc' := 48) (ls' := [_, _, _, _, _, _]) (st' := []) rfl rfl ?_
          refine jx_T.step (pc' := 49) (st' := [_]) rfl rfl ?_
          refine jx_T.step (pc' := 50) (st' := [_, _]) rfl rfl ?_
          refine cl.get 10 (by decide) rfl (cw_c10 _) rfl ?_
          rw [l6]
          refine jx_T.step (pc' := 54) (st' := [_, _, _]) rfl rfl ?_
          refine cl.geti (q1).1 (q1).2 rfl rfl ?_
          refine cl.br rfl (jx_br_eq _ _) (fun _ => ?_) (fun zq => absurd (zh) zq)
          refine jx_T.step (pc' := 66) (st' := [_, _, _]) rfl rfl ?_
          refine jx_T.step (pc' := 67) (st' := [_, _]) rfl rfl ?_
          refine cl.put 10 (by decide) rfl (cw_c10 _) (Nat.le_of_ble_eq_true rfl) rfl (cw_f10_6 _ _) ?_
          refine jx_T.step (pc' := 71) (st' := [_]) rfl rfl ?_
          refine jx_T.step (pc' := 72) (st' := [_, _]) rfl rfl ?_
          refine cl.get 10 (by decide) rfl (cw_c10 _) rfl ?_
          rw [a7]
          refine jx_T.step (pc' := 76) (st' := [_, _, _]) rfl rfl ?_
          refine cl.geti (q1).1 (q1).2 rfl rfl ?_
          refine cl.br rfl (jx_br_eq _ _) (fun _ => ?_) (fun zq => absurd (zh) zq)
          refine jx_T.step (pc' := 88) (st' := [_, _, _]) rfl rfl ?_
          refine jx_T.step (pc' := 89) (st' := [_, _]) rfl rfl ?_
          rw [Int64.add_zero]
          refine cl.put 10 (by decide) rfl (cw_c10 _) (Nat.le_of_ble_eq_true rfl) rfl (cw_f10_7 _ _) ?_
          refine jx_T.step (pc' := 95) (ls' := [_, _, _, _, _, _]) (st' := []) rfl rfl ?_
          refine jx_T.step (pc' := 12) (st' := []) rfl rfl ?_
          rw [nI_1]
          exact t
        · rw [if_neg zh] at es
          obtain ⟨W2, t, r⟩ := ih (i + 1) (cw_L (cw_L W1 10 6 (cl_s T u i).1) 10 7 ((cl_s T u i).2 + ((sv_am (T.2.2.1 i)).toInt64 - u i))) (.ref e) (.long ((sv_am (T.2.2.1 i)).toInt64 - u i)) (.retAddr 0) (by omega) (f.tr (kj_f.L.tr kj_f.L)) e1 e2 e3 (by rw [es]; rfl) (by rw [es]; rfl)
          refine ⟨W2, ?_, r⟩
          have a7 : ∀ v, (cw_L W1 10 6 v).2.2.2.1 10 7 = (cl_s T u i).2 := fun _ => l7
          refine jx_T.step (pc' := 13) (st' := [_]) rfl rfl ?_
          refine jx_T.step (pc' := 14) (st' := [_, _]) rfl rfl ?_
          refine cl.geti (h1).1 (h1).2 rfl rfl ?_
          refine cl.bc rfl (jx_br_ge _ _) (fun zq => absurd zq (nI_ge (by omega) (by omega))) (fun _ => ?_)
          refine jx_T.step (pc' := 21) (st' := [_]) rfl rfl ?_
          refine cl.geti (h1).1 (h1).2 rfl rfl ?_
          refine jx_T.step (pc' := 25) (st' := [_, _]) rfl rfl ?_
          refine cl.aaldi (h2).1 (h2).2 rfl (by decide) (rf_ix (by omega) (by decide)) ?_
          rw [nI_clamp (by omega), ee]
          refine jx_T.step (pc' := 27) (ls' := [_, _, _, _, _, _]) (st' := []) rfl rfl ?_
          refine jx_T.step (pc' := 28) (st' := [_]) rfl rfl ?_
          refine cl.v0I (hc_imm (q1).1 (q1).2) rfl (by decide) rfl ⟨Nat.le_of_ble_eq_true rfl, rfl⟩ (Nat.le_of_ble_eq_true rfl) (cb) ?_
          refine cl.brn rfl (fun zq => absurd ((rf_o_0 _).mpr zb) zq) (fun _ => ?_)
          refine jx_T.step (pc' := 35) (st' := [_]) rfl rfl ?_
          refine cl.geti (q1).1 (q1).2 rfl rfl ?_
          refine jx_T.step (pc' := 39) (st' := [_]) rfl rfl ?_
          refine jx_T.step (pc' := 40) (st' := [_, _]) rfl rfl ?_
          refine cl.get 10 (by decide) rfl (cw_c10 _) rfl ?_
          refine jx_T.step (pc' := 44) (st' := [_, _, _]) rfl rfl ?_
          refine cl.lald 11 (by decide) rfl (cw_c11 _) (rf_ix (by omega) (by decide)) ?_
          rw [nI_clamp (by omega), e2, hu _ (by omega)]
          refine jx_T.step (pc' := 46) (st' := [_]) rfl rfl ?_
          refine jx_T.step (pc' := 48) (ls' := [_, _, _, _, _, _]) (st' := []) rfl rfl ?_
          refine jx_T.step (pc' := 49) (st' := [_]) rfl rfl ?_
          refine jx_T.step (pc' := 50) (st' := [_, _]) rfl rfl ?_
          refine cl.get 10 (by decide) rfl (cw_c10 _) rfl ?_
          rw [l6]
          refine jx_T.step (pc' := 54) (st' := [_, _, _]) rfl rfl ?_
          refine cl.geti (q1).1 (q1).2 rfl rfl ?_
          refine cl.br rfl (jx_br_eq _ _) (fun zq => absurd zq (zh)) (fun _ => ?_)
          refine jx_T.step (pc' := 61) (st' := [_, _, _]) rfl rfl ?_
          refine jx_T.step (pc' := 66) (st' := [_, _, _]) rfl rfl ?_
          refine jx_T.step (pc' := 67) (st' := [_, _]) rfl rfl ?_
          rw [Int64.add_zero]
          refine cl.put 10 (by decide) rfl (cw_c10 _) (Nat.le_of_ble_eq_true rfl) rfl (cw_f10_6 _ _) ?_
          refine jx_T.step (pc' := 71) (st' := [_]) rfl rfl ?_
          refine jx_T.step (pc' := 72) (st' := [_, _]) rfl rfl ?_
          refine cl.get 10 (by decide) rfl (cw_c10 _) rfl ?_
          rw [a7]
          refine jx_T.step (pc' := 76) (st' := [_, _, _]) rfl rfl ?_
          refine cl.geti (q1).1 (q1).2 rfl rfl ?_
          refine cl.br rfl (jx_br_eq _ _) (fun zq => absurd zq (zh)) (fun _ => ?_)
          refine jx_T.step (pc' := 84) (st' := [_, _, _]) rfl rfl ?_
          refine jx_T.step (pc' := 88) (st' := [_, _, _]) rfl rfl ?_
          refine jx_T.step (pc' := 89) (st' := [_, _]) rfl rfl ?_
          refine cl.put 10 (by decide) rfl (cw_c10 _) (Nat.le_of_ble_eq_true rfl) rfl (cw_f10_7 _ _) ?_
          refine jx_T.step (pc' := 95) (ls' := [_, _, _, _, _, _]) (st' := []) rfl rfl ?_
          refine jx_T.step (pc' := 12) (st' := []) rfl rfl ?_
          rw [nI_1]
          exact t
  obtain ⟨W2, t, r⟩ := loop T.2.1 0 (cw_L (cw_L W 10 6 0) 10 7 0) (.retAddr 0) (.retAddr 0) (.retAddr 0) (by omega) (kj_f.L.tr kj_f.L) rfl rfl rfl rfl rfl
  refine ⟨W2, ?_, r⟩
  show jx_T 23 0 [.ref 10, .ref x, .retAddr 0, .retAddr 0, .retAddr 0, .retAddr 0] [] _ _ _
  refine jx_T.step (pc' := 1) (st' := [_]) rfl rfl ?_
  refine jx_T.step (pc' := 2) (st' := [_, _]) rfl rfl ?_
  refine cl.put 10 (by decide) rfl (cw_c10 _) (Nat.le_of_ble_eq_true rfl) rfl (cw_f10_6 _ _) ?_
  refine jx_T.step (pc' := 6) (st' := [_]) rfl rfl ?_
  refine jx_T.step (pc' := 7) (st' := [_, _]) rfl rfl ?_
  refine cl.put 10 (by decide) rfl (cw_c10 _) (Nat.le_of_ble_eq_true rfl) rfl (cw_f10_7 _ _) ?_
  refine jx_T.step (pc' := 11) (st' := [_]) rfl rfl ?_
  refine jx_T.step (pc' := 12) (ls' := [_, _, _, _, _, _]) (st' := []) rfl rfl ?_
  exact t
end
