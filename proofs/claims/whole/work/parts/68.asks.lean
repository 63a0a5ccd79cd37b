/-! the works' questions about lines -/
theorem cl.retB {m pc : Nat} {ls : List Value} {h : jx_H} {y : Nat} {vv : Value} {P : Prop} [Decidable P] (hr : jx_rc m pc = some (.ireturn, 1, 1, y, vv)) : jx_T m pc ls [.int (rf_o P)] h (some (.int (rf_o P))) h := by
  rcases rf_o_01 P with q | q <;> rw [q] <;> exact jx_T.ret hr rfl
theorem kc_within (h : jx_H) (v lo hi : Int32) : jx_T 90 0 (jx_ent 90 [.int v, .int lo, .int hi]) [] h (some (.int (rf_o (lo.toInt ≤ v.toInt ∧ v.toInt ≤ hi.toInt)))) h := by
  show jx_T 90 0 [.int v, .int lo, .int hi] [] _ _ _
  refine jx_T.step (pc' := 1) (st' := [_]) rfl rfl ?_
  refine jx_T.step (pc' := 2) (st' := [_, _]) rfl rfl ?_
  by_cases z : v < lo
  · rw [rf_of (fun q => by have := Int32.lt_iff_toInt_lt.mp z; omega)]
    refine cl.bc rfl (jx_br_lt _ _) (fun _ => ?_) (fun zq => absurd (z) zq)
    refine jx_T.step (pc' := 15) (st' := [_]) rfl rfl ?_
    exact jx_T.ret rfl rfl
  · refine cl.bc rfl (jx_br_lt _ _) (fun zq => absurd zq (z)) (fun _ => ?_)
    refine jx_T.step (pc' := 6) (st' := [_]) rfl rfl ?_
    refine jx_T.step (pc' := 7) (st' := [_, _]) rfl rfl ?_
    have z1 := fun q => z (Int32.lt_iff_toInt_lt.mpr q)
    by_cases y : hi < v
    · rw [rf_of (fun q => by have := Int32.lt_iff_toInt_lt.mp y; omega)]
      refine cl.bc rfl (jx_br_gt _ _) (fun _ => ?_) (fun zq => absurd (y) zq)
      refine jx_T.step (pc' := 15) (st' := [_]) rfl rfl ?_
      exact jx_T.ret rfl rfl
    · have y1 := fun q => y (Int32.lt_iff_toInt_lt.mpr q)
      rw [rf_ot ⟨Int.not_lt.mp z1, Int.not_lt.mp y1⟩]
      refine cl.bc rfl (jx_br_gt _ _) (fun zq => absurd zq (y)) (fun _ => ?_)
      refine jx_T.step (pc' := 11) (st' := [_]) rfl rfl ?_
      refine jx_T.step (pc' := 15) (st' := [_]) rfl rfl ?_
      exact jx_T.ret rfl rfl
theorem kc_isWork (h : jx_H) (w : Int32) : jx_T 113 0 (jx_ent 113 [.int w]) [] h (some (.int (rf_o (0 ≤ w.toInt ∧ w.toInt ≤ 3)))) h := by
  show jx_T 113 0 [.int w] [] _ _ _
  refine jx_T.step (pc' := 1) (st' := [_]) rfl rfl ?_
  refine jx_T.step (pc' := 2) (st' := [_, _]) rfl rfl ?_
  refine jx_T.step (pc' := 3) (st' := [_, _, _]) rfl rfl ?_
  refine cl.s3I rfl (by decide) rfl (Nat.le_of_ble_eq_true rfl) (Nat.le_of_ble_eq_true rfl) (kc_within _ _ _ _) ?_
  exact cl.retB rfl
theorem kc_isWarmth (h : jx_H) (w : Int32) : jx_T 98 0 (jx_ent 98 [.int w]) [] h (some (.int (rf_o (0 ≤ w.toInt ∧ w.toInt ≤ 2000)))) h := by
  show jx_T 98 0 [.int w] [] _ _ _
  refine jx_T.step (pc' := 1) (st' := [_]) rfl rfl ?_
  refine jx_T.step (pc' := 2) (st' := [_, _]) rfl rfl ?_
  refine jx_T.step (pc' := 5) (st' := [_, _, _]) rfl rfl ?_
  refine cl.s3I rfl (by decide) rfl (Nat.le_of_ble_eq_true rfl) (Nat.le_of_ble_eq_true rfl) (kc_within _ _ _ _) ?_
  exact cl.retB rfl
theorem kc_isLevel (h : jx_H) (w : Int32) : jx_T 127 0 (jx_ent 127 [.int w]) [] h (some (.int (rf_o (-200 ≤ w.toInt ∧ w.toInt ≤ 2000)))) h := by
  show jx_T 127 0 [.int w] [] _ _ _
  refine jx_T.step (pc' := 1) (st' := [_]) rfl rfl ?_
  refine jx_T.step (pc' := 4) (st' := [_, _]) rfl rfl ?_
  refine jx_T.step (pc' := 7) (st' := [_, _, _]) rfl rfl ?_
  refine cl.s3I rfl (by decide) rfl (Nat.le_of_ble_eq_true rfl) (Nat.le_of_ble_eq_true rfl) (kc_within _ _ _ _) ?_
  exact cl.retB rfl
/-- the state that stands now -/
def cl_now (W : cw) (g : Nat → Option jx_E) (x : Nat) (T : tv) : Prop := (∃ B D, B < 201 ∧ D ≤ 200 ∧ W.2.2.1 1 1 = nI B ∧ W.2.2.1 1 2 = nI D ∧ W.2.2.2.2.1 ((B + D) % 201) = some x) ∧ im_sta g x T ∧ tv_ok T
theorem cl_now.A {W W2 : cw} {g : Nat → Option jx_E} {x : Nat} {T : tv} (n : cl_now W g x T) (f : ka_f W W2) : cl_now W2 g x T := by
  obtain ⟨⟨B, D, h1, h2, h3, h4, h5⟩, h6⟩ := n
  exact ⟨⟨B, D, h1, h2, by rw [f.2.2.1 1 1 (by decide)]; exact h3, by rw [f.2.2.1 1 2 (by decide)]; exact h4, by rw [f.2.2.2.2]; exact h5⟩, h6⟩
theorem kc_now {W : cw} {g : Nat → Option jx_E} (nx s : Nat) {x : Nat} {T : tv} (n : cl_now W g x T) : jx_T 91 0 (jx_ent 91 [.ref 1]) [] (hc W g nx s) (some (.ref x)) (hc W g nx s) := by
  obtain ⟨⟨B, D, h1, h2, h3, h4, h5⟩, -⟩ := n
  show jx_T 91 0 [.ref 1] [] _ _ _
  refine jx_T.step (pc' := 1) (st' := [_]) rfl rfl ?_
  refine cl.get 1 (by decide) rfl (cw_c1 _) rfl ?_
  refine jx_T.step (pc' := 5) (st' := [_, _]) rfl rfl ?_
  refine cl.get 1 (by decide) rfl (cw_c1 _) rfl ?_
  rw [h3]
  refine jx_T.step (pc' := 9) (st' := [_, _, _]) rfl rfl ?_
  refine cl.get 1 (by decide) rfl (cw_c1 _) rfl ?_
  rw [h4]
  refine jx_T.step (pc' := 13) (st' := [_, _]) rfl rfl ?_
  refine jx_T.step (pc' := 16) (st' := [_, _, _]) rfl rfl ?_
  refine cl.irem rfl (by decide) ?_
  rw [nI_add, rf_lit 201, pk_rem (by omega) (by decide) (by decide)]
  refine cl.aald 2 (by decide) rfl (cw_c2 _) (by decide) (rf_ix (by omega) (by decide)) ?_
  rw [nI_clamp (by omega), h5]
  exact jx_T.ret rfl rfl
section
variable {W : cw} {g : Nat → Option jx_E} {x : Nat} {T : tv} (nx s : Nat)
/-- what is at a level, what is below it, in a state -/
def tw_a (T : tv) (w : Int32) (L : List Int32) (k : Nat) : Int64 := cs_s T w L k T.2.1
def tw_b (T : tv) (w : Int32) (L : List Int32) (k : Nat) : Int64 := cs_l T w L k T.2.1
def tw_L (T : tv) (w : Int32) : List Int32 := tg_L T w T.2.1
theorem tw_len (ok : tv_ok T) (w : Int32) : (tw_L T w).length ≤ 108 := by
  have h1 := tg_len ok w T.2.1 (Nat.le_refl _)
  have h2 := ok.1
  unfold tw_L
  omega
theorem kc_runT (n : cl_now W g x T) (w : Int32) : ∃ W2, jx_T 1 0 (jx_ent 1 [.ref 3, .ref x, .int w]) [] (hc W g nx s) none (hc W2 g nx s) ∧ ca_I W2 (tw_L T w) (tw_a T w (tw_L T w)) (tw_b T w (tw_L T w)) ∧ ka_f W W2 := kc_run W nx s n.2.1 n.2.2 w
theorem kc_least_no (w : Int32) (hw : ¬ (0 ≤ w.toInt ∧ w.toInt ≤ 3)) : jx_T 112 0 (jx_ent 112 [.ref 1, .int w]) [] (hc W g nx s) (some (.long (-1))) (hc W g nx s) := by
  show jx_T 112 0 [.ref 1, .int w] [] _ _ _
  refine jx_T.step (pc' := 1) (st' := [_]) rfl rfl ?_
  refine cl.s1I rfl (by decide) rfl (Nat.le_of_ble_eq_true rfl) (Nat.le_of_ble_eq_true rfl) (kc_isWork _ _) ?_
  refine cl.brn rfl (fun zq => absurd ((rf_o_0 _).mpr hw) zq) (fun _ => ?_)
  refine jx_T.step (pc' := 10) (st' := [_]) rfl rfl ?_
  exact jx_T.ret rfl rfl
theorem kc_least (n : cl_now W g x T) (w : Int32) (hw : 0 ≤ w.toInt ∧ w.toInt ≤ 3) : ∃ W2, jx_T 112 0 (jx_ent 112 [.ref 1, .int w]) [] (hc W g nx s) (some (.long (-(cf_mn (tw_a T w (tw_L T w)) (tw_b T w (tw_L T w)) (tw_L T w).length)))) (hc W2 g nx s) ∧ ka_f W W2 := by
  obtain ⟨W2, c, i, f⟩ := kc_runT nx s n w
  refine ⟨W2, ?_, f⟩
  show jx_T 112 0 [.ref 1, .int w] [] _ _ _
  refine jx_T.step (pc' := 1) (st' := [_]) rfl rfl ?_
  refine cl.s1I rfl (by decide) rfl (Nat.le_of_ble_eq_true rfl) (Nat.le_of_ble_eq_true rfl) (kc_isWork _ _) ?_
  refine cl.brn rfl (fun _ => ?_) (fun zq => absurd zq (fun q => (rf_o_0 _).mp q hw))
  refine jx_T.step (pc' := 12) (st' := [_]) rfl rfl ?_
  refine cl.get 1 (by decide) rfl (cw_c1 _) rfl ?_
  refine jx_T.step (pc' := 16) (st' := [_, _]) rfl rfl ?_
  refine cl.v0I (hc_fix 1 (by decide) (cw_c1 _)) rfl (by decide) rfl ⟨Nat.le_of_ble_eq_true rfl, rfl⟩ (Nat.le_of_ble_eq_true rfl) (kc_now nx s n) ?_
  refine jx_T.step (pc' := 20) (st' := [_, _, _]) rfl rfl ?_
  refine cl.v2V (hc_fix 3 (by decide) (cw_c3 _)) rfl (by decide) rfl ⟨Nat.le_of_ble_eq_true rfl, rfl⟩ (Nat.le_of_ble_eq_true rfl) (c) ?_
  refine jx_T.step (pc' := 24) (st' := [_]) rfl rfl ?_
  refine cl.get 1 (by decide) rfl (cw_c1 _) rfl ?_
  refine cl.get 3 (by decide) rfl (cw_c3 _) rfl ?_
  rw [i.2.1]
  exact jx_T.ret rfl rfl
theorem kc_cold_no (w : Int32) (hw : ¬ (0 ≤ w.toInt ∧ w.toInt ≤ 3)) : jx_T 114 0 (jx_ent 114 [.ref 1, .int w]) [] (hc W g nx s) (some (.long (-1))) (hc W g nx s) := by
  show jx_T 114 0 [.ref 1, .int w] [] _ _ _
  refine jx_T.step (pc' := 1) (st' := [_]) rfl rfl ?_
  refine cl.s1I rfl (by decide) rfl (Nat.le_of_ble_eq_true rfl) (Nat.le_of_ble_eq_true rfl) (kc_isWork _ _) ?_
  refine cl.brn rfl (fun zq => absurd ((rf_o_0 _).mpr hw) zq) (fun _ => ?_)
  refine jx_T.step (pc' := 10) (st' := [_]) rfl rfl ?_
  exact jx_T.ret rfl rfl
theorem kc_cold (n : cl_now W g x T) (w : Int32) (hw : 0 ≤ w.toInt ∧ w.toInt ≤ 3) : ∃ W2, jx_T 114 0 (jx_ent 114 [.ref 1, .int w]) [] (hc W g nx s) (some (.long (ca_c (tw_a T w (tw_L T w)) (tw_b T w (tw_L T w)) (tw_L T w).length))) (hc W2 g nx s) ∧ ka_f W W2 := by
  have hl := tw_len n.2.2 w
  obtain ⟨W2, c, i, f⟩ := kc_runT nx s n w
  refine ⟨W2, ?_, f⟩
  show jx_T 114 0 [.ref 1, .int w] [] _ _ _
  refine jx_T.step (pc' := 1) (st' := [_]) rfl rfl ?_
  refine cl.s1I rfl (by decide) rfl (Nat.le_of_ble_eq_true rfl) (Nat.le_of_ble_eq_true rfl) (kc_isWork _ _) ?_
  refine cl.brn rfl (fun _ => ?_) (fun zq => absurd zq (fun q => (rf_o_0 _).mp q hw))
  refine jx_T.step (pc' := 12) (st' := [_]) rfl rfl ?_
  refine cl.get 1 (by decide) rfl (cw_c1 _) rfl ?_
  refine jx_T.step (pc' := 16) (st' := [_, _]) rfl rfl ?_
  refine cl.v0I (hc_fix 1 (by decide) (cw_c1 _)) rfl (by decide) rfl ⟨Nat.le_of_ble_eq_true rfl, rfl⟩ (Nat.le_of_ble_eq_true rfl) (kc_now nx s n) ?_
  refine jx_T.step (pc' := 20) (st' := [_, _, _]) rfl rfl ?_
  refine cl.v2V (hc_fix 3 (by decide) (cw_c3 _)) rfl (by decide) rfl ⟨Nat.le_of_ble_eq_true rfl, rfl⟩ (Nat.le_of_ble_eq_true rfl) (c) ?_
  refine jx_T.step (pc' := 24) (st' := [_]) rfl rfl ?_
  refine cl.get 1 (by decide) rfl (cw_c1 _) rfl ?_
  refine cl.v0I (hc_fix 3 (by decide) (cw_c3 _)) rfl (by decide) rfl ⟨Nat.le_of_ble_eq_true rfl, rfl⟩ (Nat.le_of_ble_eq_true rfl) (kc_leastCold g nx s i (by omega)) ?_
  exact jx_T.ret rfl rfl
theorem kc_pinch_no (w k : Int32) (hw : ¬ (0 ≤ w.toInt ∧ w.toInt ≤ 3)) : jx_T 115 0 (jx_ent 115 [.ref 1, .int w, .int k]) [] (hc W g nx s) (some (.int (-1))) (hc W g nx s) := by
  show jx_T 115 0 [.ref 1, .int w, .int k, .retAddr 0] [] _ _ _
  refine jx_T.step (pc' := 1) (st' := [_]) rfl rfl ?_
  refine cl.s1I rfl (by decide) rfl (Nat.le_of_ble_eq_true rfl) (Nat.le_of_ble_eq_true rfl) (kc_isWork _ _) ?_
  refine cl.brn rfl (fun zq => absurd ((rf_o_0 _).mpr hw) zq) (fun _ => ?_)
  refine jx_T.step (pc' := 8) (st' := [_]) rfl rfl ?_
  exact jx_T.ret rfl rfl
def tw_p (T : tv) (w k : Int32) : Int32 := ca_pn (tw_a T w (tw_L T w)) (tw_b T w (tw_L T w)) (tw_L T w).length k (tw_L T w).length 0 0
theorem ca_pn_in (a b : Nat → Int64) (n : Nat) (w : Int32) : ∀ d k t, ca_pn a b n w d k t = -1 ∨ ∃ j, k ≤ j ∧ j < k + d ∧ ca_pn a b n w d k t = nI j
  | 0, _, _ => Or.inl rfl
  | d + 1, k, t => by
    unfold ca_pn
    split
    · split
      · exact Or.inr ⟨k, by omega, by omega, rfl⟩
      · rcases ca_pn_in a b n w d (k + 1) (t + 1) with h | ⟨j, h1, h2, h3⟩
        · exact Or.inl h
        · exact Or.inr ⟨j, by omega, by omega, h3⟩
    · rcases ca_pn_in a b n w d (k + 1) t with h | ⟨j, h1, h2, h3⟩
      · exact Or.inl h
      · exact Or.inr ⟨j, by omega, by omega, h3⟩
theorem kc_pinch (n : cl_now W g x T) (w k : Int32) (hw : 0 ≤ w.toInt ∧ w.toInt ≤ 3) : ∃ W2, jx_T 115 0 (jx_ent 115 [.ref 1, .int w, .int k]) [] (hc W g nx s) (some (.int (if tw_p T w k = -1 then -1 else (tw_L T w).getD (tw_p T w k).toNatClampNeg 0))) (hc W2 g nx s) ∧ ka_f W W2 := by
  have hl := tw_len n.2.2 w
  obtain ⟨W2, c, i, f⟩ := kc_runT nx s n w
  refine ⟨W2, ?_, f⟩
  have cp := kc_placeOfPinch g nx s i (by omega) k
  show jx_T 115 0 [.ref 1, .int w, .int k, .retAddr 0] [] _ _ _
  refine jx_T.step (pc' := 1) (st' := [_]) rfl rfl ?_
  refine cl.s1I rfl (by decide) rfl (Nat.le_of_ble_eq_true rfl) (Nat.le_of_ble_eq_true rfl) (kc_isWork _ _) ?_
  refine cl.brn rfl (fun _ => ?_) (fun zq => absurd zq (fun q => (rf_o_0 _).mp q hw))
  refine jx_T.step (pc' := 10) (st' := [_]) rfl rfl ?_
  refine cl.get 1 (by decide) rfl (cw_c1 _) rfl ?_
  refine jx_T.step (pc' := 14) (st' := [_, _]) rfl rfl ?_
  refine cl.v0I (hc_fix 1 (by decide) (cw_c1 _)) rfl (by decide) rfl ⟨Nat.le_of_ble_eq_true rfl, rfl⟩ (Nat.le_of_ble_eq_true rfl) (kc_now nx s n) ?_
  refine jx_T.step (pc' := 18) (st' := [_, _, _]) rfl rfl ?_
  refine cl.v2V (hc_fix 3 (by decide) (cw_c3 _)) rfl (by decide) rfl ⟨Nat.le_of_ble_eq_true rfl, rfl⟩ (Nat.le_of_ble_eq_true rfl) (c) ?_
  refine jx_T.step (pc' := 22) (st' := [_]) rfl rfl ?_
  refine cl.get 1 (by decide) rfl (cw_c1 _) rfl ?_
  refine jx_T.step (pc' := 26) (st' := [_, _]) rfl rfl ?_
  refine cl.v1I (hc_fix 3 (by decide) (cw_c3 _)) rfl (by decide) rfl ⟨Nat.le_of_ble_eq_true rfl, rfl⟩ (Nat.le_of_ble_eq_true rfl) (cp) ?_
  refine jx_T.step (pc' := 30) (ls' := [_, _, _, _]) (st' := []) rfl rfl ?_
  refine jx_T.step (pc' := 31) (st' := [_]) rfl rfl ?_
  refine jx_T.step (pc' := 32) (st' := [_, _]) rfl rfl ?_
  by_cases z : tw_p T w k = -1
  · rw [if_pos z]
    refine cl.bcn rfl (fun zq => absurd (z) zq) (fun _ => ?_)
    refine jx_T.step (pc' := 36) (st' := [_]) rfl rfl ?_
    refine jx_T.step (pc' := 51) (st' := [_]) rfl rfl ?_
    exact jx_T.ret rfl rfl
  · rw [if_neg z]
    refine cl.bcn rfl (fun _ => ?_) (fun zq => absurd zq (z))
    rcases ca_pn_in (tw_a T w (tw_L T w)) (tw_b T w (tw_L T w)) (tw_L T w).length k (tw_L T w).length 0 0 with q | ⟨j, q1, q2, q3⟩
    · exact absurd q z
    · rw [q3, show tw_p T w k = nI j from q3, nI_clamp (by omega)]
      refine jx_T.step (pc' := 40) (st' := [_]) rfl rfl ?_
      refine cl.get 1 (by decide) rfl (cw_c1 _) rfl ?_
      refine cl.get 3 (by decide) rfl (cw_c3 _) rfl ?_
      refine cl.get 4 (by decide) rfl (cw_c4 _) rfl ?_
      refine jx_T.step (pc' := 50) (st' := [_, _]) rfl rfl ?_
      refine cl.iald 5 (by decide) rfl (cw_c5 _) (rf_ix (by omega) (by decide)) ?_
      rw [nI_clamp (by omega), i.1.get j (by omega)]
      exact jx_T.ret rfl rfl
theorem kc_level_no (w k : Int32) (hw : ¬ (0 ≤ w.toInt ∧ w.toInt ≤ 3)) : jx_T 116 0 (jx_ent 116 [.ref 1, .int w, .int k]) [] (hc W g nx s) (some (.int (-1))) (hc W g nx s) := by
  show jx_T 116 0 [.ref 1, .int w, .int k] [] _ _ _
  refine jx_T.step (pc' := 1) (st' := [_]) rfl rfl ?_
  refine cl.s1I rfl (by decide) rfl (Nat.le_of_ble_eq_true rfl) (Nat.le_of_ble_eq_true rfl) (kc_isWork _ _) ?_
  refine cl.brn rfl (fun zq => absurd ((rf_o_0 _).mpr hw) zq) (fun _ => ?_)
  refine jx_T.step (pc' := 8) (st' := [_]) rfl rfl ?_
  exact jx_T.ret rfl rfl
theorem kc_level (n : cl_now W g x T) (w k : Int32) (hw : 0 ≤ w.toInt ∧ w.toInt ≤ 3) : ∃ W2, jx_T 116 0 (jx_ent 116 [.ref 1, .int w, .int k]) [] (hc W g nx s) (some (.int (if 0 ≤ k.toInt ∧ k.toInt < (tw_L T w).length then (tw_L T w).getD k.toNatClampNeg 0 else -1))) (hc W2 g nx s) ∧ ka_f W W2 := by
  have hl := tw_len n.2.2 w
  obtain ⟨W2, c, i, f⟩ := kc_gather W nx s n.2.1 n.2.2 w
  have i : kl_4 W2 (tw_L T w) := i
  refine ⟨W2, ?_, f.A⟩
  show jx_T 116 0 [.ref 1, .int w, .int k] [] _ _ _
  refine jx_T.step (pc' := 1) (st' := [_]) rfl rfl ?_
  refine cl.s1I rfl (by decide) rfl (Nat.le_of_ble_eq_true rfl) (Nat.le_of_ble_eq_true rfl) (kc_isWork _ _) ?_
  refine cl.brn rfl (fun _ => ?_) (fun zq => absurd zq (fun q => (rf_o_0 _).mp q hw))
  refine jx_T.step (pc' := 10) (st' := [_]) rfl rfl ?_
  refine cl.get 1 (by decide) rfl (cw_c1 _) rfl ?_
  refine jx_T.step (pc' := 14) (st' := [_, _]) rfl rfl ?_
  refine cl.v0I (hc_fix 1 (by decide) (cw_c1 _)) rfl (by decide) rfl ⟨Nat.le_of_ble_eq_true rfl, rfl⟩ (Nat.le_of_ble_eq_true rfl) (kc_now nx s n) ?_
  refine jx_T.step (pc' := 18) (st' := [_, _, _]) rfl rfl ?_
  refine cl.v2V (hc_fix 3 (by decide) (cw_c3 _)) rfl (by decide) rfl ⟨Nat.le_of_ble_eq_true rfl, rfl⟩ (Nat.le_of_ble_eq_true rfl) (c) ?_
  refine jx_T.step (pc' := 22) (st' := [_]) rfl rfl ?_
  refine cl.get 1 (by decide) rfl (cw_c1 _) rfl ?_
  refine cl.get 3 (by decide) rfl (cw_c3 _) rfl ?_
  refine jx_T.step (pc' := 29) (st' := [_, _]) rfl rfl ?_
  refine cl.v1I (hc_fix 4 (by decide) (cw_c4 _)) rfl (by decide) rfl ⟨Nat.le_of_ble_eq_true rfl, rfl⟩ (Nat.le_of_ble_eq_true rfl) (kc_has4 W2 g nx s (tw_L T w).length (by omega) i.1 k) ?_
  by_cases z : 0 ≤ k.toInt ∧ k.toInt < (tw_L T w).length
  · rw [if_pos z]
    refine cl.br rfl (jx_br_eq _ _) (fun zq => absurd zq (fun q => (rf_o_0 _).mp q z)) (fun _ => ?_)
    obtain ⟨j, hj, rfl⟩ := rf_nI (x := k) (n := 110) ⟨z.1, by omega⟩ (by decide)
    rw [nI_toInt (by omega)] at z
    rw [nI_clamp (by omega)]
    refine jx_T.step (pc' := 36) (st' := [_]) rfl rfl ?_
    refine cl.get 1 (by decide) rfl (cw_c1 _) rfl ?_
    refine cl.get 3 (by decide) rfl (cw_c3 _) rfl ?_
    refine cl.get 4 (by decide) rfl (cw_c4 _) rfl ?_
    refine jx_T.step (pc' := 46) (st' := [_, _]) rfl rfl ?_
    refine cl.iald 5 (by decide) rfl (cw_c5 _) (rf_ix (by omega) (by decide)) ?_
    rw [nI_clamp (by omega), i.get j (by omega)]
    refine jx_T.step (pc' := 51) (st' := [_]) rfl rfl ?_
    exact jx_T.ret rfl rfl
  · rw [if_neg z]
    refine cl.br rfl (jx_br_eq _ _) (fun _ => ?_) (fun zq => absurd ((rf_o_0 _).mpr z) zq)
    refine jx_T.step (pc' := 51) (st' := [_]) rfl rfl ?_
    exact jx_T.ret rfl rfl
theorem kc_levels_no (w : Int32) (hw : ¬ (0 ≤ w.toInt ∧ w.toInt ≤ 3)) : jx_T 117 0 (jx_ent 117 [.ref 1, .int w]) [] (hc W g nx s) (some (.int (-1))) (hc W g nx s) := by
  show jx_T 117 0 [.ref 1, .int w] [] _ _ _
  refine jx_T.step (pc' := 1) (st' := [_]) rfl rfl ?_
  refine cl.s1I rfl (by decide) rfl (Nat.le_of_ble_eq_true rfl) (Nat.le_of_ble_eq_true rfl) (kc_isWork _ _) ?_
  refine cl.brn rfl (fun zq => absurd ((rf_o_0 _).mpr hw) zq) (fun _ => ?_)
  refine jx_T.step (pc' := 8) (st' := [_]) rfl rfl ?_
  exact jx_T.ret rfl rfl
theorem kc_levels (n : cl_now W g x T) (w : Int32) (hw : 0 ≤ w.toInt ∧ w.toInt ≤ 3) : ∃ W2, jx_T 117 0 (jx_ent 117 [.ref 1, .int w]) [] (hc W g nx s) (some (.int (nI (tw_L T w).length))) (hc W2 g nx s) ∧ ka_f W W2 := by
  obtain ⟨W2, c, i, f⟩ := kc_gather W nx s n.2.1 n.2.2 w
  have i : kl_4 W2 (tw_L T w) := i
  refine ⟨W2, ?_, f.A⟩
  show jx_T 117 0 [.ref 1, .int w] [] _ _ _
  refine jx_T.step (pc' := 1) (st' := [_]) rfl rfl ?_
  refine cl.s1I rfl (by decide) rfl (Nat.le_of_ble_eq_true rfl) (Nat.le_of_ble_eq_true rfl) (kc_isWork _ _) ?_
  refine cl.brn rfl (fun _ => ?_) (fun zq => absurd zq (fun q => (rf_o_0 _).mp q hw))
  refine jx_T.step (pc' := 10) (st' := [_]) rfl rfl ?_
  refine cl.get 1 (by decide) rfl (cw_c1 _) rfl ?_
  refine jx_T.step (pc' := 14) (st' := [_, _]) rfl rfl ?_
  refine cl.v0I (hc_fix 1 (by decide) (cw_c1 _)) rfl (by decide) rfl ⟨Nat.le_of_ble_eq_true rfl, rfl⟩ (Nat.le_of_ble_eq_true rfl) (kc_now nx s n) ?_
  refine jx_T.step (pc' := 18) (st' := [_, _, _]) rfl rfl ?_
  refine cl.v2V (hc_fix 3 (by decide) (cw_c3 _)) rfl (by decide) rfl ⟨Nat.le_of_ble_eq_true rfl, rfl⟩ (Nat.le_of_ble_eq_true rfl) (c) ?_
  refine jx_T.step (pc' := 22) (st' := [_]) rfl rfl ?_
  refine cl.get 1 (by decide) rfl (cw_c1 _) rfl ?_
  refine cl.get 3 (by decide) rfl (cw_c3 _) rfl ?_
  refine cl.get 4 (by decide) rfl (cw_c4 _) rfl ?_
  rw [i.1]
  exact jx_T.ret rfl rfl
theorem kc_goesOn_no (w k : Int32) (hw : ¬ (0 ≤ w.toInt ∧ w.toInt ≤ 3)) : jx_T 118 0 (jx_ent 118 [.ref 1, .int w, .int k]) [] (hc W g nx s) (some (.long (-1))) (hc W g nx s) := by
  show jx_T 118 0 [.ref 1, .int w, .int k] [] _ _ _
  refine jx_T.step (pc' := 1) (st' := [_]) rfl rfl ?_
  refine cl.s1I rfl (by decide) rfl (Nat.le_of_ble_eq_true rfl) (Nat.le_of_ble_eq_true rfl) (kc_isWork _ _) ?_
  refine cl.brn rfl (fun zq => absurd ((rf_o_0 _).mpr hw) zq) (fun _ => ?_)
  refine jx_T.step (pc' := 10) (st' := [_]) rfl rfl ?_
  exact jx_T.ret rfl rfl
def tw_g (T : tv) (w : Int32) (k : Nat) : Int64 := cf_su (tw_a T w (tw_L T w)) (tw_b T w (tw_L T w)) k + tw_a T w (tw_L T w) k + -(cf_mn (tw_a T w (tw_L T w)) (tw_b T w (tw_L T w)) (tw_L T w).length)
theorem kc_goesOn (n : cl_now W g x T) (w k : Int32) (hw : 0 ≤ w.toInt ∧ w.toInt ≤ 3) : ∃ W2, jx_T 118 0 (jx_ent 118 [.ref 1, .int w, .int k]) [] (hc W g nx s) (some (.long (if 0 ≤ k.toInt ∧ k.toInt < (tw_L T w).length then tw_g T w k.toNatClampNeg else -1))) (hc W2 g nx s) ∧ ka_f W W2 := by
  have hl := tw_len n.2.2 w
  obtain ⟨W2, c, i, f⟩ := kc_runT nx s n w
  refine ⟨W2, ?_, f⟩
  show jx_T 118 0 [.ref 1, .int w, .int k] [] _ _ _
  refine jx_T.step (pc' := 1) (st' := [_]) rfl rfl ?_
  refine cl.s1I rfl (by decide) rfl (Nat.le_of_ble_eq_true rfl) (Nat.le_of_ble_eq_true rfl) (kc_isWork _ _) ?_
  refine cl.brn rfl (fun _ => ?_) (fun zq => absurd zq (fun q => (rf_o_0 _).mp q hw))
  refine jx_T.step (pc' := 12) (st' := [_]) rfl rfl ?_
  refine cl.get 1 (by decide) rfl (cw_c1 _) rfl ?_
  refine jx_T.step (pc' := 16) (st' := [_, _]) rfl rfl ?_
  refine cl.v0I (hc_fix 1 (by decide) (cw_c1 _)) rfl (by decide) rfl ⟨Nat.le_of_ble_eq_true rfl, rfl⟩ (Nat.le_of_ble_eq_true rfl) (kc_now nx s n) ?_
  refine jx_T.step (pc' := 20) (st' := [_, _, _]) rfl rfl ?_
  refine cl.v2V (hc_fix 3 (by decide) (cw_c3 _)) rfl (by decide) rfl ⟨Nat.le_of_ble_eq_true rfl, rfl⟩ (Nat.le_of_ble_eq_true rfl) (c) ?_
  refine jx_T.step (pc' := 24) (st' := [_]) rfl rfl ?_
  refine cl.get 1 (by decide) rfl (cw_c1 _) rfl ?_
  refine cl.get 3 (by decide) rfl (cw_c3 _) rfl ?_
  refine jx_T.step (pc' := 31) (st' := [_, _]) rfl rfl ?_
  refine cl.v1I (hc_fix 4 (by decide) (cw_c4 _)) rfl (by decide) rfl ⟨Nat.le_of_ble_eq_true rfl, rfl⟩ (Nat.le_of_ble_eq_true rfl) (kc_has4 W2 g nx s (tw_L T w).length (by omega) i.1.1 k) ?_
  by_cases z : 0 ≤ k.toInt ∧ k.toInt < (tw_L T w).length
  · rw [if_pos z]
    refine cl.br rfl (jx_br_eq _ _) (fun zq => absurd zq (fun q => (rf_o_0 _).mp q z)) (fun _ => ?_)
    obtain ⟨j, hj, rfl⟩ := rf_nI (x := k) (n := 110) ⟨z.1, by omega⟩ (by decide)
    rw [nI_toInt (by omega)] at z
    rw [nI_clamp (by omega)]
    refine jx_T.step (pc' := 38) (st' := [_]) rfl rfl ?_
    refine cl.get 1 (by decide) rfl (cw_c1 _) rfl ?_
    refine cl.get 3 (by decide) rfl (cw_c3 _) rfl ?_
    refine jx_T.step (pc' := 45) (st' := [_, _]) rfl rfl ?_
    refine cl.lald 9 (by decide) rfl (cw_c9 _) (rf_ix (by omega) (by decide)) ?_
    rw [nI_clamp (by omega), (i.2.2 j (by omega)).2]
    refine jx_T.step (pc' := 52) (st' := [_]) rfl rfl ?_
    exact jx_T.ret rfl rfl
  · rw [if_neg z]
    refine cl.br rfl (jx_br_eq _ _) (fun _ => ?_) (fun zq => absurd ((rf_o_0 _).mpr z) zq)
    refine jx_T.step (pc' := 52) (st' := [_]) rfl rfl ?_
    exact jx_T.ret rfl rfl
theorem kc_line_no (w b lv : Int32) (hw : ¬ (0 ≤ w.toInt ∧ w.toInt ≤ 3)) : jx_T 119 0 (jx_ent 119 [.ref 1, .int w, .int b, .int lv]) [] (hc W g nx s) (some (.long (-1))) (hc W g nx s) := by
  show jx_T 119 0 [.ref 1, .int w, .int b, .int lv, .retAddr 0, .retAddr 0, .retAddr 0, .retAddr 0, .retAddr 0] [] _ _ _
  refine jx_T.step (pc' := 1) (st' := [_]) rfl rfl ?_
  refine cl.s1I rfl (by decide) rfl (Nat.le_of_ble_eq_true rfl) (Nat.le_of_ble_eq_true rfl) (kc_isWork _ _) ?_
  refine cl.brn rfl (fun zq => absurd ((rf_o_0 _).mpr hw) zq) (fun _ => ?_)
  refine jx_T.step (pc' := 10) (st' := [_]) rfl rfl ?_
  exact jx_T.ret rfl rfl
def tw_ln (T : tv) (w b lv : Int32) : Nat → Int64
  | 0 => 0
  | i + 1 => if sv_is (T.2.2.1 i) w ∧ sv_hot (T.2.2.1 i) = b then tw_ln T w b lv i + sv_hb (T.2.2.1 i) T.1 lv 1 else tw_ln T w b lv i
theorem kc_line (n : cl_now W g x T) (w b lv : Int32) (hw : 0 ≤ w.toInt ∧ w.toInt ≤ 3) : jx_T 119 0 (jx_ent 119 [.ref 1, .int w, .int b, .int lv]) [] (hc W g nx s) (some (.long (tw_ln T w b lv T.2.1))) (hc W g nx s) := by
  have cn := kc_now nx s n
  obtain ⟨-, im, ok⟩ := n
  obtain ⟨s1, s2, s3, s4, f1, f2, f3, h1, h2, h3, -⟩ := im
  have hM := ok.1
  have loop : ∀ d i (u8 : Value), i + d = T.2.1 → jx_T 119 23 [.ref 1, .int w, .int b, .int lv, .ref x, .long (tw_ln T w b lv i), .retAddr 0, .int (nI i), u8] [] (hc W g nx s) (some (.long (tw_ln T w b lv T.2.1))) (hc W g nx s) := by
    intro d
    induction d with
    | zero =>
      intro i u8 hi
      refine jx_T.step (pc' := 25) (st' := [_]) rfl rfl ?_
      refine jx_T.step (pc' := 27) (st' := [_, _]) rfl rfl ?_
      refine cl.geti (h1).1 (h1).2 rfl rfl ?_
      rw [show i = T.2.1 by omega]
      refine cl.bc rfl (jx_br_ge _ _) (fun _ => ?_) (fun zq => absurd (Int32.le_refl _) zq)
      refine jx_T.step (pc' := 86) (st' := [_]) rfl rfl ?_
      exact jx_T.ret rfl rfl
    | succ d ih =>
      intro i u8 hi
      obtain ⟨c, e1, imb⟩ := h3 i (by omega)
      have co := kc_isOf W nx s imb w
      have ch := kc_heatAbove W nx s imb (ok.2 i (by omega)) T.1 lv 1
      obtain ⟨ad, af, q1, q2, q3⟩ := imb
      have nxt := ih (i + 1) (.ref c) (by omega)
      rw [show tw_ln T w b lv (i + 1) = if sv_is (T.2.2.1 i) w ∧ sv_hot (T.2.2.1 i) = b then tw_ln T w b lv i + sv_hb (T.2.2.1 i) T.1 lv 1 else tw_ln T w b lv i from rfl, ← nI_1] at nxt
      refine jx_T.step (pc' := 25) (st' := [_]) rfl rfl ?_
      refine jx_T.step (pc' := 27) (st' := [_, _]) rfl rfl ?_
      refine cl.geti (h1).1 (h1).2 rfl rfl ?_
      refine cl.bc rfl (jx_br_ge _ _) (fun zq => absurd zq (nI_ge (by omega) (by omega))) (fun _ => ?_)
      refine jx_T.step (pc' := 35) (st' := [_]) rfl rfl ?_
      refine cl.geti (h1).1 (h1).2 rfl rfl ?_
      refine jx_T.step (pc' := 40) (st' := [_, _]) rfl rfl ?_
      refine cl.aaldi (h2).1 (h2).2 rfl (by decide) (rf_ix (by omega) (by decide)) ?_
      rw [nI_clamp (by omega), e1]
      refine jx_T.step (pc' := 43) (ls' := [_, _, _, _, _, _, _, _, _]) (st' := []) rfl rfl ?_
      refine jx_T.step (pc' := 45) (st' := [_]) rfl rfl ?_
      refine jx_T.step (pc' := 46) (st' := [_, _]) rfl rfl ?_
      refine cl.v1I (hc_imm (q1).1 (q1).2) rfl (by decide) rfl ⟨Nat.le_of_ble_eq_true rfl, rfl⟩ (Nat.le_of_ble_eq_true rfl) (co) ?_
      by_cases z : sv_is (T.2.2.1 i) w
      · refine cl.br rfl (jx_br_eq _ _) (fun zq => absurd zq (fun q => (rf_o_0 _).mp q z)) (fun _ => ?_)
        refine jx_T.step (pc' := 54) (st' := [_]) rfl rfl ?_
        refine cl.geti (q1).1 (q1).2 rfl rfl ?_
        refine jx_T.step (pc' := 58) (st' := [_, _]) rfl rfl ?_
        by_cases y : sv_hot (T.2.2.1 i) = b
        · rw [if_pos ⟨z, y⟩] at nxt
          refine cl.bcn rfl (fun zq => absurd (y) zq) (fun _ => ?_)
          refine jx_T.step (pc' := 63) (st' := [_]) rfl rfl ?_
          refine jx_T.step (pc' := 65) (st' := [_, _]) rfl rfl ?_
          refine jx_T.step (pc' := 67) (st' := [_, _, _]) rfl rfl ?_
          refine cl.geti (h1).1 (h1).2 rfl rfl ?_
          refine jx_T.step (pc' := 71) (st' := [_, _, _, _]) rfl rfl ?_
          refine jx_T.step (pc' := 72) (st' := [_, _, _, _, _]) rfl rfl ?_
          refine cl.v3I (hc_imm (q1).1 (q1).2) rfl (by decide) rfl ⟨Nat.le_of_ble_eq_true rfl, rfl⟩ (Nat.le_of_ble_eq_true rfl) (ch) ?_
          refine jx_T.step (pc' := 76) (st' := [_]) rfl rfl ?_
          refine jx_T.step (pc' := 78) (ls' := [_, _, _, _, _, _, _, _, _]) (st' := []) rfl rfl ?_
          refine jx_T.step (pc' := 81) (ls' := [_, _, _, _, _, _, _, _, _]) (st' := []) rfl rfl ?_
          refine jx_T.step (pc' := 23) (st' := []) rfl rfl ?_
          exact nxt
        · rw [if_neg (fun q => y q.2)] at nxt
          refine cl.bcn rfl (fun _ => ?_) (fun zq => absurd zq (y))
          refine jx_T.step (pc' := 81) (ls' := [_, _, _, _, _, _, _, _, _]) (st' := []) rfl rfl ?_
          refine jx_T.step (pc' := 23) (st' := []) rfl rfl ?_
          exact nxt
      · rw [if_neg (fun q => z q.1)] at nxt
        refine cl.br rfl (jx_br_eq _ _) (fun _ => ?_) (fun zq => absurd ((rf_o_0 _).mpr z) zq)
        refine jx_T.step (pc' := 81) (ls' := [_, _, _, _, _, _, _, _, _]) (st' := []) rfl rfl ?_
        refine jx_T.step (pc' := 23) (st' := []) rfl rfl ?_
        exact nxt
  show jx_T 119 0 [.ref 1, .int w, .int b, .int lv, .retAddr 0, .retAddr 0, .retAddr 0, .retAddr 0, .retAddr 0] [] _ _ _
  refine jx_T.step (pc' := 1) (st' := [_]) rfl rfl ?_
  refine cl.s1I rfl (by decide) rfl (Nat.le_of_ble_eq_true rfl) (Nat.le_of_ble_eq_true rfl) (kc_isWork _ _) ?_
  refine cl.brn rfl (fun _ => ?_) (fun zq => absurd zq (fun q => (rf_o_0 _).mp q hw))
  refine jx_T.step (pc' := 12) (st' := [_]) rfl rfl ?_
  refine cl.v0I (hc_fix 1 (by decide) (cw_c1 _)) rfl (by decide) rfl ⟨Nat.le_of_ble_eq_true rfl, rfl⟩ (Nat.le_of_ble_eq_true rfl) (cn) ?_
  refine jx_T.step (pc' := 17) (ls' := [_, _, _, _, _, _, _, _, _]) (st' := []) rfl rfl ?_
  refine jx_T.step (pc' := 18) (st' := [_]) rfl rfl ?_
  refine jx_T.step (pc' := 20) (ls' := [_, _, _, _, _, _, _, _, _]) (st' := []) rfl rfl ?_
  refine jx_T.step (pc' := 21) (st' := [_]) rfl rfl ?_
  refine jx_T.step (pc' := 23) (ls' := [_, _, _, _, _, _, _, _, _]) (st' := []) rfl rfl ?_
  exact loop T.2.1 0 _ (by omega)
end
