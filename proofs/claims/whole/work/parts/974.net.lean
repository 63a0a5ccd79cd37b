/-! the works' network: nodes and links -/
/-- the half links, as the rows hold them -/
def nt_H (W : cw) (H : List hA) (N : Nat) : Prop := W.2.2.1 22 10 = nI N ∧ W.2.2.1 22 11 = nI H.length ∧ (∀ i, i < H.length → W.1 24 i = nI (H.getD i hd).2.1 ∧ W.1 27 i = (H.getD i hd).2.2) ∧ ∀ a, a < N → ch (W.1 25) (W.1 23 a) (hg_adj H a)
/-- all but the network stays -/
def kn_f (W W2 : cw) : Prop := (∀ k, (k < 23 ∨ 32 < k) → W2.1 k = W.1 k) ∧ W2.2.1 = W.2.1 ∧ (∀ k y, k ≠ 22 → W2.2.2.1 k y = W.2.2.1 k y) ∧ W2.2.2.2 = W.2.2.2
theorem kn_f.rf {W : cw} : kn_f W W := ⟨fun _ _ => rfl, rfl, fun _ _ _ => rfl, rfl⟩
theorem kn_f.tr {W W2 W3 : cw} (a : kn_f W W2) (b : kn_f W2 W3) : kn_f W W3 := ⟨fun k h => (b.1 k h).trans (a.1 k h), b.2.1.trans a.2.1, fun k y h => (b.2.2.1 k y h).trans (a.2.2.1 k y h), b.2.2.2.trans a.2.2.2⟩
theorem kn_f.A {W : cw} {k : Nat} {f : Nat → Int32} (h : 23 ≤ k ∧ k ≤ 32) : kn_f W (cw_A W k f) := ⟨fun j hj => cw_An _ _ _ (by omega), rfl, fun _ _ _ => rfl, rfl⟩
theorem kn_f.I {W : cw} {y : Nat} {v : Int32} : kn_f W (cw_I W 22 y v) := ⟨fun _ _ => rfl, rfl, fun k z h => if_neg (fun q => h q.1), rfl⟩
theorem kn_f.Q {W W2 : cw} (a : kn_f W W2) : kq_f W W2 := ⟨fun y => a.2.2.1 1 y (by decide), by rw [a.2.1], by rw [a.2.2.2]⟩
theorem hg_nil {H : List hA} {N : Nat} (h : ∀ i, i < H.length → (H.getD i hd).1 < N) : hg_adj H N = [] := by
  refine List.eq_nil_iff_forall_not_mem.mpr (fun i hi => ?_)
  have := hg_mem.mp hi
  have := h i this.1
  omega
section
variable {W : cw} {g : Nat → Option jx_E} {nx s : Nat} {H : List hA} {N : Nat}
theorem kc_isNode (K : nt_H W H N) (hN : N ≤ 1324) (k : Int32) : jx_T 37 0 (jx_ent 37 [.ref 22, .int k]) [] (hc W g nx s) (some (.int (rf_o (0 ≤ k.toInt ∧ k.toInt < N)))) (hc W g nx s) := by
  have en := K.1
  show jx_T 37 0 [.ref 22, .int k] [] _ _ _
  refine jx_T.step (pc' := 1) (st' := [_]) rfl rfl ?_
  by_cases z : k < 0
  · rw [rf_of (fun q => by have := (rf_lt0 k).mp z; omega)]
    refine cl.br rfl (jx_br_lt _ _) (fun _ => ?_) (fun zq => absurd (z) zq)
    refine jx_T.step (pc' := 17) (st' := [_]) rfl rfl ?_
    exact jx_T.ret rfl rfl
  · refine cl.br rfl (jx_br_lt _ _) (fun zq => absurd zq (z)) (fun _ => ?_)
    obtain ⟨j, hj, rfl⟩ := rf_nn z
    refine jx_T.step (pc' := 5) (st' := [_]) rfl rfl ?_
    refine jx_T.step (pc' := 6) (st' := [_, _]) rfl rfl ?_
    refine cl.get 22 (by decide) rfl (cw_c22 _) rfl ?_
    rw [en]
    by_cases y : j < N
    · rw [rf_ot (by rw [nI_toInt hj]; omega)]
      refine cl.bc rfl (jx_br_ge _ _) (fun zq => absurd zq (nI_ge y (by omega))) (fun _ => ?_)
      refine jx_T.step (pc' := 13) (st' := [_]) rfl rfl ?_
      refine jx_T.step (pc' := 17) (st' := [_]) rfl rfl ?_
      exact jx_T.ret rfl rfl
    · rw [rf_of (by rw [nI_toInt hj]; omega)]
      refine cl.bc rfl (jx_br_ge _ _) (fun _ => ?_) (fun zq => absurd (nI_le (by omega) hj) zq)
      refine jx_T.step (pc' := 17) (st' := [_]) rfl rfl ?_
      exact jx_T.ret rfl rfl
theorem kc_newNode (K : nt_H W H N) (hN : N < 1324) (hH : ∀ i, i < H.length → (H.getD i hd).1 < N) : ∃ W2, jx_T 35 0 (jx_ent 35 [.ref 22]) [] (hc W g nx s) (some (.int (nI N))) (hc W2 g nx s) ∧ nt_H W2 H (N + 1) ∧ kn_f W W2 ∧ W2.1 26 = W.1 26 := by
  obtain ⟨k1, k2, k3, k4⟩ := K
  refine ⟨cw_I (cw_A W 23 (upd (W.1 23) N (-1))) 22 10 (nI (N + 1)), ?_, ⟨rfl, k2, k3, fun a ha => ?_⟩, (kn_f.A (by decide)).tr kn_f.I, rfl⟩
  · have a1 : ∀ f, (cw_A W 23 f).2.2.1 22 10 = nI N := fun _ => k1
    have a2 : ∀ f v, (cw_I (cw_A W 23 f) 22 10 v).2.2.1 22 10 = v := fun _ _ => rfl
    show jx_T 35 0 [.ref 22] [] _ _ _
    refine jx_T.step (pc' := 1) (st' := [_]) rfl rfl ?_
    refine cl.get 22 (by decide) rfl (cw_c22 _) rfl ?_
    refine jx_T.step (pc' := 7) (st' := [_, _]) rfl rfl ?_
    rw [k1, rf_lit 1324]
    refine cl.bc rfl (jx_br_lt _ _) (fun _ => ?_) (fun zq => absurd (nI_lt hN (by omega)) zq)
    refine jx_T.step (pc' := 13) (st' := [_]) rfl rfl ?_
    refine cl.get 22 (by decide) rfl (cw_c22 _) rfl ?_
    refine jx_T.step (pc' := 17) (st' := [_, _]) rfl rfl ?_
    refine cl.get 22 (by decide) rfl (cw_c22 _) rfl ?_
    rw [k1]
    refine jx_T.step (pc' := 21) (st' := [_, _, _]) rfl rfl ?_
    refine cl.iast 23 (by decide) rfl (cw_c23 _) (cw_s23 _) (rf_ix hN (by decide)) ?_
    rw [nI_clamp (by omega)]
    refine jx_T.step (pc' := 23) (st' := [_]) rfl rfl ?_
    refine jx_T.step (pc' := 24) (st' := [_, _]) rfl rfl ?_
    refine cl.get 22 (by decide) rfl (cw_c22 _) rfl ?_
    rw [a1]
    refine jx_T.step (pc' := 28) (st' := [_, _, _]) rfl rfl ?_
    refine jx_T.step (pc' := 29) (st' := [_, _]) rfl rfl ?_
    rw [nI_1]
    refine cl.put 22 (by decide) rfl (cw_c22 _) (Nat.le_of_ble_eq_true rfl) rfl (cw_f22_10 _ _) ?_
    refine jx_T.step (pc' := 33) (st' := [_]) rfl rfl ?_
    refine cl.get 22 (by decide) rfl (cw_c22 _) rfl ?_
    rw [a2]
    refine jx_T.step (pc' := 37) (st' := [_, _]) rfl rfl ?_
    refine jx_T.step (pc' := 38) (st' := [_]) rfl rfl ?_
    rw [rf_lit 1, rf_nsub (by omega), show N + 1 - 1 = N by omega]
    exact jx_T.ret rfl rfl
  · show ch (W.1 25) (upd (W.1 23) N (-1) a) _
    by_cases e : a = N
    · rw [e, rf_up_eq, hg_nil hH]
      rfl
    · rw [rf_up_ne e]
      exact k4 a (by omega)
theorem kc_oneWay (K : nt_H W H N) (hN : N ≤ 1324) (hn : H.length < 11886) (a b : Nat) (ha : a < N) (most each : Int32) : ∃ W2, jx_T 38 0 (jx_ent 38 [.ref 22, .int (nI a), .int (nI b), .int most, .int each]) [] (hc W g nx s) none (hc W2 g nx s) ∧ nt_H W2 (H ++ [(a, b, each)]) N ∧ kn_f W W2 ∧ W2.1 26 = upd (W.1 26) H.length most := by
  obtain ⟨k1, k2, k3, k4⟩ := K
  obtain ⟨W1, e1⟩ : ∃ W1, W1 = cw_A W 24 (upd (W.1 24) H.length (nI b)) := ⟨_, rfl⟩
  obtain ⟨W2, e2⟩ : ∃ W2, W2 = cw_A W1 26 (upd (W1.1 26) H.length most) := ⟨_, rfl⟩
  obtain ⟨W3, e3⟩ : ∃ W3, W3 = cw_A W2 27 (upd (W2.1 27) H.length each) := ⟨_, rfl⟩
  obtain ⟨W4, e4⟩ : ∃ W4, W4 = cw_A W3 25 (upd (W3.1 25) H.length (W3.1 23 a)) := ⟨_, rfl⟩
  obtain ⟨W5, e5⟩ : ∃ W5, W5 = cw_A W4 23 (upd (W4.1 23) a (nI H.length)) := ⟨_, rfl⟩
  obtain ⟨W6, e6⟩ : ∃ W6, W6 = cw_I W5 22 11 (nI (H.length + 1)) := ⟨_, rfl⟩
  have i1 : W1.2 = W.2 := by rw [e1]; rfl
  have i2 : W2.2 = W.2 := by rw [e2]; exact i1
  have i3 : W3.2 = W.2 := by rw [e3]; exact i2
  have i4 : W4.2 = W.2 := by rw [e4]; exact i3
  have i5 : W5.2 = W.2 := by rw [e5]; exact i4
  have p6 : W6.1 = W5.1 := by rw [e6]; rfl
  have t23 : W6.1 23 = upd (W.1 23) a (nI H.length) := by rw [p6, e5, cw_Ae, e4, cw_An _ _ _ (by decide), e3, cw_An _ _ _ (by decide), e2, cw_An _ _ _ (by decide), e1, cw_An _ _ _ (by decide)]
  have t24 : W6.1 24 = upd (W.1 24) H.length (nI b) := by rw [p6, e5, cw_An _ _ _ (by decide), e4, cw_An _ _ _ (by decide), e3, cw_An _ _ _ (by decide), e2, cw_An _ _ _ (by decide), e1, cw_Ae]
  have t25 : W6.1 25 = upd (W.1 25) H.length (W.1 23 a) := by rw [p6, e5, cw_An _ _ _ (by decide), e4, cw_Ae, e3, cw_An _ _ _ (by decide), cw_An _ _ _ (by decide), e2, cw_An _ _ _ (by decide), cw_An _ _ _ (by decide), e1, cw_An _ _ _ (by decide), cw_An _ _ _ (by decide)]
  have t26 : W6.1 26 = upd (W.1 26) H.length most := by rw [p6, e5, cw_An _ _ _ (by decide), e4, cw_An _ _ _ (by decide), e3, cw_An _ _ _ (by decide), e2, cw_Ae, e1, cw_An _ _ _ (by decide)]
  have t27 : W6.1 27 = upd (W.1 27) H.length each := by rw [p6, e5, cw_An _ _ _ (by decide), e4, cw_An _ _ _ (by decide), e3, cw_Ae, e2, cw_An _ _ _ (by decide), e1, cw_An _ _ _ (by decide)]
  refine ⟨W6, ?_, ⟨?_, ?_, fun i hi => ?_, fun x hx => ?_⟩, ?_, t26⟩
  · show jx_T 38 0 [.ref 22, .int (nI a), .int (nI b), .int most, .int each] [] _ _ _
    refine jx_T.step (pc' := 1) (st' := [_]) rfl rfl ?_
    refine cl.get 22 (by decide) rfl (cw_c22 _) rfl ?_
    refine jx_T.step (pc' := 5) (st' := [_, _]) rfl rfl ?_
    refine cl.get 22 (by decide) rfl (cw_c22 _) rfl ?_
    rw [k2]
    refine jx_T.step (pc' := 9) (st' := [_, _, _]) rfl rfl ?_
    refine cl.iast 24 (by decide) rfl (cw_c24 _) (cw_s24 _) (rf_ix (by omega) (by decide)) ?_
    rw [nI_clamp (by omega), ← e1]
    refine jx_T.step (pc' := 11) (st' := [_]) rfl rfl ?_
    refine cl.get 22 (by decide) rfl (cw_c22 _) rfl ?_
    refine jx_T.step (pc' := 15) (st' := [_, _]) rfl rfl ?_
    refine cl.get 22 (by decide) rfl (cw_c22 _) rfl ?_
    rw [i1, k2]
    refine jx_T.step (pc' := 19) (st' := [_, _, _]) rfl rfl ?_
    refine cl.iast 26 (by decide) rfl (cw_c26 _) (cw_s26 _) (rf_ix (by omega) (by decide)) ?_
    rw [nI_clamp (by omega), ← e2]
    refine jx_T.step (pc' := 21) (st' := [_]) rfl rfl ?_
    refine cl.get 22 (by decide) rfl (cw_c22 _) rfl ?_
    refine jx_T.step (pc' := 25) (st' := [_, _]) rfl rfl ?_
    refine cl.get 22 (by decide) rfl (cw_c22 _) rfl ?_
    rw [i2, k2]
    refine jx_T.step (pc' := 30) (st' := [_, _, _]) rfl rfl ?_
    refine cl.iast 27 (by decide) rfl (cw_c27 _) (cw_s27 _) (rf_ix (by omega) (by decide)) ?_
    rw [nI_clamp (by omega), ← e3]
    refine jx_T.step (pc' := 32) (st' := [_]) rfl rfl ?_
    refine cl.get 22 (by decide) rfl (cw_c22 _) rfl ?_
    refine jx_T.step (pc' := 36) (st' := [_, _]) rfl rfl ?_
    refine cl.get 22 (by decide) rfl (cw_c22 _) rfl ?_
    rw [i3, k2]
    refine jx_T.step (pc' := 40) (st' := [_, _, _]) rfl rfl ?_
    refine cl.get 22 (by decide) rfl (cw_c22 _) rfl ?_
    refine jx_T.step (pc' := 44) (st' := [_, _, _, _]) rfl rfl ?_
    refine cl.iald 23 (by decide) rfl (cw_c23 _) (rf_ix (by omega) (by decide)) ?_
    rw [nI_clamp (by omega)]
    refine cl.iast 25 (by decide) rfl (cw_c25 _) (cw_s25 _) (rf_ix (by omega) (by decide)) ?_
    rw [nI_clamp (by omega), ← e4]
    refine jx_T.step (pc' := 47) (st' := [_]) rfl rfl ?_
    refine cl.get 22 (by decide) rfl (cw_c22 _) rfl ?_
    refine jx_T.step (pc' := 51) (st' := [_, _]) rfl rfl ?_
    refine jx_T.step (pc' := 52) (st' := [_, _, _]) rfl rfl ?_
    refine cl.get 22 (by decide) rfl (cw_c22 _) rfl ?_
    rw [i4, k2]
    refine cl.iast 23 (by decide) rfl (cw_c23 _) (cw_s23 _) (rf_ix (by omega) (by decide)) ?_
    rw [nI_clamp (by omega), ← e5]
    refine jx_T.step (pc' := 57) (st' := [_]) rfl rfl ?_
    refine jx_T.step (pc' := 58) (st' := [_, _]) rfl rfl ?_
    refine cl.get 22 (by decide) rfl (cw_c22 _) rfl ?_
    rw [i5, k2]
    refine jx_T.step (pc' := 62) (st' := [_, _, _]) rfl rfl ?_
    refine jx_T.step (pc' := 63) (st' := [_, _]) rfl rfl ?_
    rw [nI_1]
    refine cl.put 22 (by decide) rfl (cw_c22 _) (Nat.le_of_ble_eq_true rfl) rfl (cw_f22_11 _ _) ?_
    rw [← e6]
    exact jx_T.ret rfl rfl
  · rw [e6]
    show (cw_I W5 22 11 (nI (H.length + 1))).2.2.1 22 10 = nI N
    show W5.2.2.1 22 10 = nI N
    rw [i5]
    exact k1
  · rw [e6, List.length_append, List.length_singleton]
    rfl
  · rw [List.length_append, List.length_singleton] at hi
    rw [t24, t27]
    unfold upd
    by_cases e : i = H.length
    · rw [if_pos e, if_pos e, e]
      simp [List.getD_eq_getElem?_getD]
    · have hi2 : i < H.length := by omega
      obtain ⟨g1, g2⟩ := k3 i hi2
      rw [if_neg e, if_neg e, g1, g2]
      simp [List.getD_eq_getElem?_getD, List.getElem?_append, hi2]
  · rw [t25, t23, hg_app]
    have c0 : ∀ y, y < N → ch (upd (W.1 25) H.length (W.1 23 a)) (W.1 23 y) (hg_adj H y) := fun y hy => ch_congr (fun i hi => (rf_up_ne (by have := hg_lt hi; omega)).symm) (k4 y hy)
    by_cases e : a = x
    · subst e
      rw [if_pos rfl, rf_up_eq]
      refine ⟨rfl, ?_⟩
      rw [rf_up_eq]
      exact c0 a ha
    · rw [if_neg e, rf_up_ne (fun q => e q.symm)]
      exact c0 x hx
  · rw [e6, e5, e4, e3, e2, e1]
    exact ((((kn_f.A (by decide)).tr (kn_f.A (by decide))).tr (kn_f.A (by decide))).tr ((kn_f.A (by decide)).tr (kn_f.A (by decide)))).tr kn_f.I
/-- the rooms of links -/
def nt_R (W : cw) (n : Nat) (r : Nat → Int) : Prop := ∀ i, i < n → (W.1 26 i).toInt = r i
/-- a link that is made -/
theorem kc_link (A : List gA) (K : nt_H W (hv A) N) (Rr : nt_R W (2 * A.length) (pr (hv_r A))) (hN : N ≤ 1324) (hn : A.length < 5943) (a b : Nat) (ha : a < N) (hb : b < N) (most each : Int32) : ∃ W2, jx_T 36 0 (jx_ent 36 [.ref 22, .int (nI a), .int (nI b), .int most, .int each]) [] (hc W g nx s) none (hc W2 g nx s) ∧ nt_H W2 (hv (A ++ [(a, b, most.toInt64, each)])) N ∧ nt_R W2 (2 * (A.length + 1)) (pr (hv_r (A ++ [(a, b, most.toInt64, each)]))) ∧ kn_f W W2 := by
  have hl := hv_len A
  obtain ⟨W1, c1, K1, f1, r1⟩ := kc_oneWay (g := g) (nx := nx) (s := s) K hN (by omega) a b ha most each
  have hl1 : (hv A ++ [(a, b, each)]).length = 2 * A.length + 1 := by rw [List.length_append, hl]; rfl
  obtain ⟨W2, c2, K2, f2, r2⟩ := kc_oneWay (g := g) (nx := nx) (s := s) K1 hN (by omega) b a hb 0 (-each)
  rw [hl1] at r2
  rw [hl] at r1
  refine ⟨W2, ?_, ?_, fun i hi => ?_, f1.tr f2⟩
  · show jx_T 36 0 [.ref 22, .int (nI a), .int (nI b), .int most, .int each] [] _ _ _
    refine jx_T.step (pc' := 1) (st' := [_]) rfl rfl ?_
    refine jx_T.step (pc' := 2) (st' := [_, _]) rfl rfl ?_
    refine cl.v1I (hc_fix 22 (by decide) (cw_c22 _)) rfl (by decide) rfl ⟨Nat.le_of_ble_eq_true rfl, rfl⟩ (Nat.le_of_ble_eq_true rfl) (kc_isNode K hN _) ?_
    refine cl.br rfl (jx_br_eq _ _) (fun zq => absurd zq (fun q => (rf_o_0 _).mp q (by rw [nI_toInt (by omega)]; omega))) (fun _ => ?_)
    refine jx_T.step (pc' := 9) (st' := [_]) rfl rfl ?_
    refine jx_T.step (pc' := 10) (st' := [_, _]) rfl rfl ?_
    refine cl.v1I (hc_fix 22 (by decide) (cw_c22 _)) rfl (by decide) rfl ⟨Nat.le_of_ble_eq_true rfl, rfl⟩ (Nat.le_of_ble_eq_true rfl) (kc_isNode K hN _) ?_
    refine cl.br rfl (jx_br_eq _ _) (fun zq => absurd zq (fun q => (rf_o_0 _).mp q (by rw [nI_toInt (by omega)]; omega))) (fun _ => ?_)
    refine jx_T.step (pc' := 17) (st' := [_]) rfl rfl ?_
    refine cl.get 22 (by decide) rfl (cw_c22 _) rfl ?_
    refine jx_T.step (pc' := 21) (st' := [_, _]) rfl rfl ?_
    refine jx_T.step (pc' := 22) (st' := [_]) rfl rfl ?_
    rw [K.2.1, hl, rf_lit 2, nI_add]
    refine jx_T.step (pc' := 25) (st' := [_, _]) rfl rfl ?_
    rw [rf_lit 11886]
    refine cl.bc rfl (jx_br_gt _ _) (fun zq => absurd zq (Int32.not_lt.mpr (nI_le (by omega) (by omega)))) (fun _ => ?_)
    refine jx_T.step (pc' := 29) (st' := [_]) rfl rfl ?_
    refine jx_T.step (pc' := 30) (st' := [_, _]) rfl rfl ?_
    refine jx_T.step (pc' := 31) (st' := [_, _, _]) rfl rfl ?_
    refine jx_T.step (pc' := 32) (st' := [_, _, _, _]) rfl rfl ?_
    refine jx_T.step (pc' := 34) (st' := [_, _, _, _, _]) rfl rfl ?_
    refine cl.v4V (hc_fix 22 (by decide) (cw_c22 _)) rfl (by decide) rfl ⟨Nat.le_of_ble_eq_true rfl, rfl⟩ (Nat.le_of_ble_eq_true rfl) (c1) ?_
    refine jx_T.step (pc' := 38) (st' := [_]) rfl rfl ?_
    refine jx_T.step (pc' := 39) (st' := [_, _]) rfl rfl ?_
    refine jx_T.step (pc' := 40) (st' := [_, _, _]) rfl rfl ?_
    refine jx_T.step (pc' := 41) (st' := [_, _, _, _]) rfl rfl ?_
    refine jx_T.step (pc' := 43) (st' := [_, _, _, _, _]) rfl rfl ?_
    refine jx_T.step (pc' := 44) (st' := [_, _, _, _, _]) rfl rfl ?_
    refine cl.v4V (hc_fix 22 (by decide) (cw_c22 _)) rfl (by decide) rfl ⟨Nat.le_of_ble_eq_true rfl, rfl⟩ (Nat.le_of_ble_eq_true rfl) (c2) ?_
    exact jx_T.ret rfl rfl
  · rw [hv_app]
    exact K2
  · rw [r2]
    unfold upd
    show _ = (hv_r (A ++ [(a, b, most.toInt64, each)]) i).toInt
    by_cases e1 : i = 2 * A.length + 1
    · rw [if_pos e1, e1, hv_r_1]
      rfl
    · rw [if_neg e1, r1]
      unfold upd
      by_cases e2 : i = 2 * A.length
      · rw [if_pos e2, e2, hv_r_0, rf_w]
      · rw [if_neg e2, hv_r_lt _ _ _ (by omega)]
        exact Rr i (by omega)
/-- a link that isn't: one end is no node -/
theorem kc_link_no (K : nt_H W H N) (hN : N ≤ 1324) (b most each : Int32) : jx_T 36 0 (jx_ent 36 [.ref 22, .int (-1), .int b, .int most, .int each]) [] (hc W g nx s) none (hc W g nx s) := by
  show jx_T 36 0 [.ref 22, .int (-1), .int b, .int most, .int each] [] _ _ _
  refine jx_T.step (pc' := 1) (st' := [_]) rfl rfl ?_
  refine jx_T.step (pc' := 2) (st' := [_, _]) rfl rfl ?_
  refine cl.v1I (hc_fix 22 (by decide) (cw_c22 _)) rfl (by decide) rfl ⟨Nat.le_of_ble_eq_true rfl, rfl⟩ (Nat.le_of_ble_eq_true rfl) (kc_isNode K hN _) ?_
  refine cl.br rfl (jx_br_eq _ _) (fun _ => ?_) (fun zq => absurd ((rf_o_0 _).mpr (fun q => absurd q.1 (by decide))) zq)
  exact jx_T.ret rfl rfl
theorem kc_clear (W : cw) : ∃ W2, jx_T 34 0 (jx_ent 34 [.ref 22, .int 4]) [] (hc W g nx s) none (hc W2 g nx s) ∧ nt_H W2 [] 4 ∧ kn_f W W2 := by
  have loop : ∀ d k (W1 : cw), k + d = 4 → nt_H W1 [] k → kn_f W W1 → ∃ W2, jx_T 34 12 [.ref 22, .int 4, .int (nI k)] [] (hc W1 g nx s) none (hc W2 g nx s) ∧ nt_H W2 [] 4 ∧ kn_f W W2 := by
    intro d
    induction d with
    | zero =>
      intro k W1 hk K f
      obtain rfl : k = 4 := by omega
      refine ⟨W1, ?_, K, f⟩
      refine jx_T.step (pc' := 13) (st' := [_]) rfl rfl ?_
      refine jx_T.step (pc' := 14) (st' := [_, _]) rfl rfl ?_
      refine cl.bc rfl (jx_br_ge _ _) (fun _ => ?_) (fun zq => absurd (by decide) zq)
      exact jx_T.ret rfl rfl
    | succ d ih =>
      intro k W1 hk K f
      obtain ⟨W2, c, K2, f2, -⟩ := kc_newNode (g := g) (nx := nx) (s := s) K (by omega) (fun i hi => absurd hi (by simp))
      obtain ⟨W3, t, r⟩ := ih (k + 1) W2 (by omega) K2 (f.tr f2)
      refine ⟨W3, ?_, r⟩
      refine jx_T.step (pc' := 13) (st' := [_]) rfl rfl ?_
      refine jx_T.step (pc' := 14) (st' := [_, _]) rfl rfl ?_
      rw [rf_lit 4]
      refine cl.bc rfl (jx_br_ge _ _) (fun zq => absurd zq (nI_ge (by omega) (by omega))) (fun _ => ?_)
      refine jx_T.step (pc' := 18) (st' := [_]) rfl rfl ?_
      refine cl.v0I (hc_fix 22 (by decide) (cw_c22 _)) rfl (by decide) rfl ⟨Nat.le_of_ble_eq_true rfl, rfl⟩ (Nat.le_of_ble_eq_true rfl) (c) ?_
      refine jx_T.step (pc' := 22) (st' := []) rfl rfl ?_
      refine jx_T.step (pc' := 25) (ls' := [_, _, _]) (st' := []) rfl rfl ?_
      refine jx_T.step (pc' := 12) (st' := []) rfl rfl ?_
      rw [nI_1]
      exact t
  obtain ⟨W2, t, r⟩ := loop 4 0 (cw_I (cw_I W 22 10 0) 22 11 0) (by omega) ⟨rfl, rfl, fun i hi => absurd hi (by simp), fun a ha => absurd ha (by omega)⟩ (kn_f.I.tr kn_f.I)
  refine ⟨W2, ?_, r⟩
  show jx_T 34 0 [.ref 22, .int 4, .retAddr 0] [] _ _ _
  refine jx_T.step (pc' := 1) (st' := [_]) rfl rfl ?_
  refine jx_T.step (pc' := 2) (st' := [_, _]) rfl rfl ?_
  refine cl.put 22 (by decide) rfl (cw_c22 _) (Nat.le_of_ble_eq_true rfl) rfl (cw_f22_10 _ _) ?_
  refine jx_T.step (pc' := 6) (st' := [_]) rfl rfl ?_
  refine jx_T.step (pc' := 7) (st' := [_, _]) rfl rfl ?_
  refine cl.put 22 (by decide) rfl (cw_c22 _) (Nat.le_of_ble_eq_true rfl) rfl (cw_f22_11 _ _) ?_
  refine jx_T.step (pc' := 11) (st' := [_]) rfl rfl ?_
  refine jx_T.step (pc' := 12) (ls' := [_, _, _]) (st' := []) rfl rfl ?_
  exact t
end
