/-! the works' places in streams -/
abbrev plv : Type := Nat × Int32 × Int32 × Int64
def pq_h (S : sv) (j : Nat) : Int64 := (sv_of S (sv_fd S) (nI j)).toInt64 * (sv_of S (sv_ff S) (nI j)).toInt64
def pq_st (S : sv) (q : plv) : plv := if q.1 + 1 < sv_n S ∧ ¬ q.2.2.2 < pq_h S q.1 then (q.1 + 1, q.2.1 - sv_fd S q.1, sv_of S (sv_ff S) (nI (q.1 + 1)), q.2.2.2 - pq_h S q.1) else q
def pq_it (S : sv) : Nat → plv → plv
  | 0, q => q
  | k + 1, q => pq_it S k (pq_st S q)
def pq_put (S : sv) (heat : Int64) : plv := pq_it S (sv_n S - 1) (0, sv_hotter S, sv_of S (sv_ff S) 0, heat)
def pq_tb (S : sv) (q : plv) : Int64 := if q.2.2.1 = 0 then 9223372036854775807 else pq_h S q.1 - q.2.2.2
def pq_ov (q : plv) : Int64 := if q.2.2.1 = 0 then q.2.1.toInt64 else q.2.1.toInt64 * q.2.2.1.toInt64 - q.2.2.2
def pq_un (q : plv) : Int64 := if q.2.2.1 = 0 then 1 else q.2.2.1.toInt64
def pq_mv (S : sv) (q : plv) (x : Int64) : plv := pq_st S (q.1, q.2.1, q.2.2.1, q.2.2.2 + x)
theorem pq_st_le (S : sv) (q : plv) (h : q.1 ≤ sv_n S) : (pq_st S q).1 ≤ sv_n S := by
  unfold pq_st
  split
  · rename_i z
    show q.1 + 1 ≤ _
    omega
  · exact h
theorem pq_it_le (S : sv) : ∀ k (q : plv), q.1 ≤ sv_n S → (pq_it S k q).1 ≤ sv_n S
  | 0, _, h => h
  | k + 1, q, h => pq_it_le S k (pq_st S q) (pq_st_le S q h)
def kp_13 (W : cw) (a : Nat) (q : plv) : Prop := W.2.2.2.2.2 13 = .ref a ∧ W.2.2.1 13 1 = nI q.1 ∧ W.2.2.1 13 2 = q.2.1 ∧ W.2.2.1 13 3 = q.2.2.1 ∧ W.2.2.2.1 13 4 = q.2.2.2
def kr_13 (W W2 : cw) : Prop := W2.1 = W.1 ∧ W2.2.1 = W.2.1 ∧ (∀ k y, k ≠ 13 → W2.2.2.1 k y = W.2.2.1 k y) ∧ (∀ k y, k ≠ 13 → W2.2.2.2.1 k y = W.2.2.2.1 k y) ∧ W2.2.2.2.2.1 = W.2.2.2.2.1 ∧ ∀ k, k ≠ 13 → W2.2.2.2.2.2 k = W.2.2.2.2.2 k
theorem kr_13.rf {W : cw} : kr_13 W W := ⟨rfl, rfl, fun _ _ _ => rfl, fun _ _ _ => rfl, rfl, fun _ _ => rfl⟩
theorem kr_13.tr {W W2 W3 : cw} (a : kr_13 W W2) (b : kr_13 W2 W3) : kr_13 W W3 := ⟨b.1.trans a.1, b.2.1.trans a.2.1, fun k y h => (b.2.2.1 k y h).trans (a.2.2.1 k y h), fun k y h => (b.2.2.2.1 k y h).trans (a.2.2.2.1 k y h), b.2.2.2.2.1.trans a.2.2.2.2.1, fun k h => (b.2.2.2.2.2 k h).trans (a.2.2.2.2.2 k h)⟩
theorem kr_13.I {W : cw} {y : Nat} {v : Int32} : kr_13 W (cw_I W 13 y v) := ⟨rfl, rfl, fun k z h => if_neg (fun q => h q.1), fun _ _ _ => rfl, rfl, fun _ _ => rfl⟩
theorem kr_13.L {W : cw} {y : Nat} {v : Int64} : kr_13 W (cw_L W 13 y v) := ⟨rfl, rfl, fun _ _ _ => rfl, fun k z h => if_neg (fun q => h q.1), rfl, fun _ _ => rfl⟩
theorem kr_13.Qv {W : cw} {v : Value} : kr_13 W (cw_Q W 13 v) := ⟨rfl, rfl, fun _ _ _ => rfl, fun _ _ _ => rfl, rfl, fun k h => if_neg h⟩
section
variable {W : cw} {g : Nat → Option jx_E} {nx s a : Nat} {S : sv} {q : plv}
theorem kc_step13 (im : im_str g a S) (h8 : sv_n S ≤ 8) (K : kp_13 W a q) (hq : q.1 ≤ 8) : ∃ W2, jx_T 51 0 (jx_ent 51 [.ref 13]) [] (hc W g nx s) none (hc W2 g nx s) ∧ kp_13 W2 a (pq_st S q) ∧ kr_13 W W2 := by
  obtain ⟨k0, k1, k2, k3, k4⟩ := K
  have ch := fun W => kc_heatOfSpan W nx s im h8 (nI q.1)
  have cf := fun W => kc_flowOfSpan W nx s im h8 (nI (q.1 + 1))
  obtain ⟨ad, af, q1, q2, q3⟩ := im
  unfold pq_st
  by_cases z : q.1 + 1 < sv_n S ∧ ¬ q.2.2.2 < pq_h S q.1
  · rw [if_pos z]
    refine ⟨cw_I (cw_I (cw_I (cw_L W 13 4 (q.2.2.2 - pq_h S q.1)) 13 2 (q.2.1 - sv_fd S q.1)) 13 1 (nI (q.1 + 1))) 13 3 (sv_of S (sv_ff S) (nI (q.1 + 1))), ?_, ⟨k0, rfl, rfl, rfl, rfl⟩, kr_13.L.tr (kr_13.I.tr (kr_13.I.tr kr_13.I))⟩
    have a0 : ∀ v, (cw_L W 13 4 v).2.2.2.2.2 13 = .ref a := fun _ => k0
    have a1 : ∀ v, (cw_L W 13 4 v).2.2.1 13 1 = nI q.1 := fun _ => k1
    have a2 : ∀ v, (cw_L W 13 4 v).2.2.1 13 2 = q.2.1 := fun _ => k2
    have b1 : ∀ v u, (cw_I (cw_L W 13 4 v) 13 2 u).2.2.1 13 1 = nI q.1 := fun _ _ => k1
    have c0 : ∀ v u w, (cw_I (cw_I (cw_L W 13 4 v) 13 2 u) 13 1 w).2.2.2.2.2 13 = .ref a := fun _ _ _ => k0
    have c1 : ∀ v u w, (cw_I (cw_I (cw_L W 13 4 v) 13 2 u) 13 1 w).2.2.1 13 1 = w := fun _ _ _ => rfl
    show jx_T 51 0 [.ref 13] [] _ _ _
    refine jx_T.step (pc' := 1) (st' := [_]) rfl rfl ?_
    refine cl.get 13 (by decide) rfl (cw_c13 _) rfl ?_
    rw [k0]
    refine jx_T.step (pc' := 7) (st' := []) rfl rfl ?_
    refine jx_T.step (pc' := 8) (st' := [_]) rfl rfl ?_
    refine cl.get 13 (by decide) rfl (cw_c13 _) rfl ?_
    refine jx_T.step (pc' := 12) (st' := [_, _]) rfl rfl ?_
    rw [k1]
    refine jx_T.step (pc' := 13) (st' := [_]) rfl rfl ?_
    refine jx_T.step (pc' := 14) (st' := [_, _]) rfl rfl ?_
    refine cl.get 13 (by decide) rfl (cw_c13 _) rfl ?_
    rw [k0, nI_1]
    refine cl.geti (q1).1 (q1).2 rfl rfl ?_
    refine cl.aleni (q2).1 (q2).2 rfl (Or.inl (by decide)) ?_
    refine cl.bc rfl (jx_br_ge _ _) (fun zq => absurd zq (nI_ge z.1 (by omega))) (fun _ => ?_)
    refine jx_T.step (pc' := 25) (st' := [_]) rfl rfl ?_
    refine cl.get 13 (by decide) rfl (cw_c13 _) rfl ?_
    refine jx_T.step (pc' := 29) (st' := [_, _]) rfl rfl ?_
    refine cl.get 13 (by decide) rfl (cw_c13 _) rfl ?_
    rw [k0, k4]
    refine jx_T.step (pc' := 33) (st' := [_, _, _]) rfl rfl ?_
    refine cl.get 13 (by decide) rfl (cw_c13 _) rfl ?_
    rw [k1]
    refine cl.v1I (hc_imm (q1).1 (q1).2) rfl (by decide) rfl ⟨Nat.le_of_ble_eq_true rfl, rfl⟩ (Nat.le_of_ble_eq_true rfl) (ch _) ?_
    refine jx_T.step (pc' := 40) (st' := [_]) rfl rfl ?_
    refine cl.br rfl (jx_br_lt _ _) (fun zq => absurd zq (fun y => z.2 ((lg_cmp_lt0 _ _).mp y))) (fun _ => ?_)
    refine jx_T.step (pc' := 44) (st' := [_]) rfl rfl ?_
    refine jx_T.step (pc' := 45) (st' := [_, _]) rfl rfl ?_
    refine cl.get 13 (by decide) rfl (cw_c13 _) rfl ?_
    refine jx_T.step (pc' := 49) (st' := [_, _, _]) rfl rfl ?_
    refine cl.get 13 (by decide) rfl (cw_c13 _) rfl ?_
    rw [k0, k4]
    refine jx_T.step (pc' := 53) (st' := [_, _, _, _]) rfl rfl ?_
    refine cl.get 13 (by decide) rfl (cw_c13 _) rfl ?_
    rw [k1]
    refine cl.v1I (hc_imm (q1).1 (q1).2) rfl (by decide) rfl ⟨Nat.le_of_ble_eq_true rfl, rfl⟩ (Nat.le_of_ble_eq_true rfl) (ch _) ?_
    refine jx_T.step (pc' := 60) (st' := [_, _]) rfl rfl ?_
    refine cl.put 13 (by decide) rfl (cw_c13 _) (Nat.le_of_ble_eq_true rfl) rfl (cw_f13_4 _ _) ?_
    refine jx_T.step (pc' := 64) (st' := [_]) rfl rfl ?_
    refine jx_T.step (pc' := 65) (st' := [_, _]) rfl rfl ?_
    refine cl.get 13 (by decide) rfl (cw_c13 _) rfl ?_
    refine jx_T.step (pc' := 69) (st' := [_, _, _]) rfl rfl ?_
    refine cl.get 13 (by decide) rfl (cw_c13 _) rfl ?_
    rw [a0, a2]
    refine cl.geti (q1).1 (q1).2 rfl rfl ?_
    refine jx_T.step (pc' := 76) (st' := [_, _, _, _]) rfl rfl ?_
    refine cl.get 13 (by decide) rfl (cw_c13 _) rfl ?_
    rw [a1]
    refine cl.ialdi (q2).1 (q2).2 rfl (rf_ix (by omega) (by omega)) ?_
    rw [nI_clamp (by omega)]
    refine jx_T.step (pc' := 81) (st' := [_, _]) rfl rfl ?_
    refine cl.put 13 (by decide) rfl (cw_c13 _) (Nat.le_of_ble_eq_true rfl) rfl (cw_f13_2 _ _) ?_
    refine jx_T.step (pc' := 85) (st' := [_]) rfl rfl ?_
    refine jx_T.step (pc' := 86) (st' := [_, _]) rfl rfl ?_
    refine cl.get 13 (by decide) rfl (cw_c13 _) rfl ?_
    rw [b1]
    refine jx_T.step (pc' := 90) (st' := [_, _, _]) rfl rfl ?_
    refine jx_T.step (pc' := 91) (st' := [_, _]) rfl rfl ?_
    rw [nI_1]
    refine cl.put 13 (by decide) rfl (cw_c13 _) (Nat.le_of_ble_eq_true rfl) rfl (cw_f13_1 _ _) ?_
    refine jx_T.step (pc' := 95) (st' := [_]) rfl rfl ?_
    refine jx_T.step (pc' := 96) (st' := [_, _]) rfl rfl ?_
    refine cl.get 13 (by decide) rfl (cw_c13 _) rfl ?_
    rw [c0]
    refine jx_T.step (pc' := 100) (st' := [_, _, _]) rfl rfl ?_
    refine cl.get 13 (by decide) rfl (cw_c13 _) rfl ?_
    rw [c1]
    refine cl.v1I (hc_imm (q1).1 (q1).2) rfl (by decide) rfl ⟨Nat.le_of_ble_eq_true rfl, rfl⟩ (Nat.le_of_ble_eq_true rfl) (cf _) ?_
    refine cl.put 13 (by decide) rfl (cw_c13 _) (Nat.le_of_ble_eq_true rfl) rfl (cw_f13_3 _ _) ?_
    exact jx_T.ret rfl rfl
  · rw [if_neg z]
    refine ⟨W, ?_, ⟨k0, k1, k2, k3, k4⟩, kr_13.rf⟩
    show jx_T 51 0 [.ref 13] [] _ _ _
    refine jx_T.step (pc' := 1) (st' := [_]) rfl rfl ?_
    refine cl.get 13 (by decide) rfl (cw_c13 _) rfl ?_
    rw [k0]
    refine jx_T.step (pc' := 7) (st' := []) rfl rfl ?_
    refine jx_T.step (pc' := 8) (st' := [_]) rfl rfl ?_
    refine cl.get 13 (by decide) rfl (cw_c13 _) rfl ?_
    refine jx_T.step (pc' := 12) (st' := [_, _]) rfl rfl ?_
    rw [k1]
    refine jx_T.step (pc' := 13) (st' := [_]) rfl rfl ?_
    refine jx_T.step (pc' := 14) (st' := [_, _]) rfl rfl ?_
    refine cl.get 13 (by decide) rfl (cw_c13 _) rfl ?_
    rw [k0, nI_1]
    refine cl.geti (q1).1 (q1).2 rfl rfl ?_
    refine cl.aleni (q2).1 (q2).2 rfl (Or.inl (by decide)) ?_
    by_cases y : q.1 + 1 < sv_n S
    · refine cl.bc rfl (jx_br_ge _ _) (fun zq => absurd zq (nI_ge y (by omega))) (fun _ => ?_)
      refine jx_T.step (pc' := 25) (st' := [_]) rfl rfl ?_
      refine cl.get 13 (by decide) rfl (cw_c13 _) rfl ?_
      refine jx_T.step (pc' := 29) (st' := [_, _]) rfl rfl ?_
      refine cl.get 13 (by decide) rfl (cw_c13 _) rfl ?_
      rw [k0, k4]
      refine jx_T.step (pc' := 33) (st' := [_, _, _]) rfl rfl ?_
      refine cl.get 13 (by decide) rfl (cw_c13 _) rfl ?_
      rw [k1]
      refine cl.v1I (hc_imm (q1).1 (q1).2) rfl (by decide) rfl ⟨Nat.le_of_ble_eq_true rfl, rfl⟩ (Nat.le_of_ble_eq_true rfl) (ch _) ?_
      refine jx_T.step (pc' := 40) (st' := [_]) rfl rfl ?_
      refine cl.br rfl (jx_br_lt _ _) (fun _ => ?_) (fun zq => absurd ((lg_cmp_lt0 _ _).mpr (Decidable.not_not.mp (fun x => z ⟨y, x⟩))) zq)
      exact jx_T.ret rfl rfl
    · refine cl.bc rfl (jx_br_ge _ _) (fun _ => ?_) (fun zq => absurd (nI_le (by omega) (by omega)) zq)
      exact jx_T.ret rfl rfl
theorem kc_under13 (K : kp_13 W a q) : jx_T 52 0 (jx_ent 52 [.ref 13]) [] (hc W g nx s) (some (.long (pq_un q))) (hc W g nx s) := by
  obtain ⟨k0, k1, k2, k3, k4⟩ := K
  unfold pq_un
  show jx_T 52 0 [.ref 13] [] _ _ _
  refine jx_T.step (pc' := 1) (st' := [_]) rfl rfl ?_
  refine cl.get 13 (by decide) rfl (cw_c13 _) rfl ?_
  rw [k3]
  by_cases z : q.2.2.1 = 0
  · rw [if_pos z]
    refine cl.brn rfl (fun zq => absurd (z) zq) (fun _ => ?_)
    refine jx_T.step (pc' := 8) (st' := [_]) rfl rfl ?_
    refine jx_T.step (pc' := 16) (st' := [_]) rfl rfl ?_
    exact jx_T.ret rfl rfl
  · rw [if_neg z]
    refine cl.brn rfl (fun _ => ?_) (fun zq => absurd zq (z))
    refine jx_T.step (pc' := 12) (st' := [_]) rfl rfl ?_
    refine cl.get 13 (by decide) rfl (cw_c13 _) rfl ?_
    rw [k3]
    refine jx_T.step (pc' := 16) (st' := [_]) rfl rfl ?_
    exact jx_T.ret rfl rfl
theorem kc_over13 (K : kp_13 W a q) : jx_T 53 0 (jx_ent 53 [.ref 13]) [] (hc W g nx s) (some (.long (pq_ov q))) (hc W g nx s) := by
  obtain ⟨k0, k1, k2, k3, k4⟩ := K
  unfold pq_ov
  show jx_T 53 0 [.ref 13] [] _ _ _
  refine jx_T.step (pc' := 1) (st' := [_]) rfl rfl ?_
  refine cl.get 13 (by decide) rfl (cw_c13 _) rfl ?_
  rw [k3]
  by_cases z : q.2.2.1 = 0
  · rw [if_pos z]
    refine cl.brn rfl (fun zq => absurd (z) zq) (fun _ => ?_)
    refine jx_T.step (pc' := 8) (st' := [_]) rfl rfl ?_
    refine cl.get 13 (by decide) rfl (cw_c13 _) rfl ?_
    rw [k2]
    refine jx_T.step (pc' := 12) (st' := [_]) rfl rfl ?_
    refine jx_T.step (pc' := 31) (st' := [_]) rfl rfl ?_
    exact jx_T.ret rfl rfl
  · rw [if_neg z]
    refine cl.brn rfl (fun _ => ?_) (fun zq => absurd zq (z))
    refine jx_T.step (pc' := 16) (st' := [_]) rfl rfl ?_
    refine cl.get 13 (by decide) rfl (cw_c13 _) rfl ?_
    rw [k2]
    refine jx_T.step (pc' := 20) (st' := [_]) rfl rfl ?_
    refine jx_T.step (pc' := 21) (st' := [_, _]) rfl rfl ?_
    refine cl.get 13 (by decide) rfl (cw_c13 _) rfl ?_
    rw [k3]
    refine jx_T.step (pc' := 25) (st' := [_, _]) rfl rfl ?_
    refine jx_T.step (pc' := 26) (st' := [_]) rfl rfl ?_
    refine jx_T.step (pc' := 27) (st' := [_, _]) rfl rfl ?_
    refine cl.get 13 (by decide) rfl (cw_c13 _) rfl ?_
    rw [k4]
    refine jx_T.step (pc' := 31) (st' := [_]) rfl rfl ?_
    exact jx_T.ret rfl rfl
theorem kc_toBend13 (im : im_str g a S) (h8 : sv_n S ≤ 8) (K : kp_13 W a q) : jx_T 54 0 (jx_ent 54 [.ref 13]) [] (hc W g nx s) (some (.long (pq_tb S q))) (hc W g nx s) := by
  obtain ⟨k0, k1, k2, k3, k4⟩ := K
  have ch := kc_heatOfSpan W nx s im h8 (nI q.1)
  obtain ⟨ad, af, q1, q2, q3⟩ := im
  unfold pq_tb
  show jx_T 54 0 [.ref 13] [] _ _ _
  refine jx_T.step (pc' := 1) (st' := [_]) rfl rfl ?_
  refine cl.get 13 (by decide) rfl (cw_c13 _) rfl ?_
  rw [k0]
  refine jx_T.step (pc' := 7) (st' := []) rfl rfl ?_
  refine jx_T.step (pc' := 8) (st' := [_]) rfl rfl ?_
  refine cl.get 13 (by decide) rfl (cw_c13 _) rfl ?_
  rw [k3]
  by_cases z : q.2.2.1 = 0
  · rw [if_pos z]
    refine cl.brn rfl (fun zq => absurd (z) zq) (fun _ => ?_)
    refine jx_T.step (pc' := 17) (st' := [_]) rfl rfl ?_
    refine jx_T.step (pc' := 36) (st' := [_]) rfl rfl ?_
    exact jx_T.ret rfl rfl
  · rw [if_neg z]
    refine cl.brn rfl (fun _ => ?_) (fun zq => absurd zq (z))
    refine jx_T.step (pc' := 21) (st' := [_]) rfl rfl ?_
    refine cl.get 13 (by decide) rfl (cw_c13 _) rfl ?_
    rw [k0]
    refine jx_T.step (pc' := 25) (st' := [_, _]) rfl rfl ?_
    refine cl.get 13 (by decide) rfl (cw_c13 _) rfl ?_
    rw [k1]
    refine cl.v1I (hc_imm (q1).1 (q1).2) rfl (by decide) rfl ⟨Nat.le_of_ble_eq_true rfl, rfl⟩ (Nat.le_of_ble_eq_true rfl) (ch) ?_
    refine jx_T.step (pc' := 32) (st' := [_, _]) rfl rfl ?_
    refine cl.get 13 (by decide) rfl (cw_c13 _) rfl ?_
    rw [k4]
    refine jx_T.step (pc' := 36) (st' := [_]) rfl rfl ?_
    exact jx_T.ret rfl rfl
theorem kc_move13 (im : im_str g a S) (h8 : sv_n S ≤ 8) (K : kp_13 W a q) (hq : q.1 ≤ 8) (x : Int64) : ∃ W2, jx_T 55 0 (jx_ent 55 [.ref 13, .long x]) [] (hc W g nx s) none (hc W2 g nx s) ∧ kp_13 W2 a (pq_mv S q x) ∧ kr_13 W W2 := by
  obtain ⟨k0, k1, k2, k3, k4⟩ := K
  obtain ⟨W2, c, K2, f⟩ := kc_step13 (nx := nx) (s := s) (W := cw_L W 13 4 (q.2.2.2 + x)) (q := (q.1, q.2.1, q.2.2.1, q.2.2.2 + x)) im h8 ⟨k0, k1, k2, k3, rfl⟩ hq
  refine ⟨W2, ?_, K2, kr_13.L.tr f⟩
  show jx_T 55 0 [.ref 13, .long x, .retAddr 0] [] _ _ _
  refine jx_T.step (pc' := 1) (st' := [_]) rfl rfl ?_
  refine jx_T.step (pc' := 2) (st' := [_, _]) rfl rfl ?_
  refine cl.get 13 (by decide) rfl (cw_c13 _) rfl ?_
  rw [k4]
  refine jx_T.step (pc' := 6) (st' := [_, _, _]) rfl rfl ?_
  refine jx_T.step (pc' := 7) (st' := [_, _]) rfl rfl ?_
  refine cl.put 13 (by decide) rfl (cw_c13 _) (Nat.le_of_ble_eq_true rfl) rfl (cw_f13_4 _ _) ?_
  refine jx_T.step (pc' := 11) (st' := [_]) rfl rfl ?_
  refine cl.v0V (hc_fix 13 (by decide) (cw_c13 _)) rfl (by decide) rfl ⟨Nat.le_of_ble_eq_true rfl, rfl⟩ (Nat.le_of_ble_eq_true rfl) (c) ?_
  exact jx_T.ret rfl rfl
theorem kc_put13 (W : cw) (im : im_str g a S) (h8 : sv_n S ≤ 8) (x : Int64) : ∃ W2, jx_T 50 0 (jx_ent 50 [.ref 13, .ref a, .long x]) [] (hc W g nx s) none (hc W2 g nx s) ∧ kp_13 W2 a (pq_put S x) ∧ kr_13 W W2 := by
  have im0 := im
  have cf := fun W => kc_flowOfSpan W nx s im h8 0
  obtain ⟨ad, af, q1, q2, q3⟩ := im
  have loop : ∀ d k (W1 : cw) (q : plv), 1 ≤ k → k + d = max 1 (sv_n S) → q.1 ≤ sv_n S → kp_13 W1 a q → kr_13 W W1 → ∃ W2, jx_T 50 35 [.ref 13, .ref a, .long x, .retAddr 0, .int (nI k)] [] (hc W1 g nx s) none (hc W2 g nx s) ∧ kp_13 W2 a (pq_it S d q) ∧ kr_13 W W2 := by
    intro d
    induction d with
    | zero =>
      intro k W1 q hk1 hk hq K f
      refine ⟨W1, ?_, K, f⟩
      refine jx_T.step (pc' := 37) (st' := [_]) rfl rfl ?_
      refine jx_T.step (pc' := 38) (st' := [_, _]) rfl rfl ?_
      refine cl.geti (q1).1 (q1).2 rfl rfl ?_
      refine cl.aleni (q2).1 (q2).2 rfl (Or.inl (by decide)) ?_
      refine cl.bc rfl (jx_br_ge _ _) (fun _ => ?_) (fun zq => absurd (nI_le (by omega) (by omega)) zq)
      exact jx_T.ret rfl rfl
    | succ d ih =>
      intro k W1 q hk1 hk hq K f
      obtain ⟨W2, c, K2, f2⟩ := kc_step13 (nx := nx) (s := s) im0 h8 K (by omega)
      obtain ⟨W3, t, K3, f3⟩ := ih (k + 1) W2 (pq_st S q) (by omega) (by omega) (pq_st_le S q hq) K2 (f.tr f2)
      refine ⟨W3, ?_, K3, f3⟩
      refine jx_T.step (pc' := 37) (st' := [_]) rfl rfl ?_
      refine jx_T.step (pc' := 38) (st' := [_, _]) rfl rfl ?_
      refine cl.geti (q1).1 (q1).2 rfl rfl ?_
      refine cl.aleni (q2).1 (q2).2 rfl (Or.inl (by decide)) ?_
      refine cl.bc rfl (jx_br_ge _ _) (fun zq => absurd zq (nI_ge (by omega) (by omega))) (fun _ => ?_)
      refine jx_T.step (pc' := 46) (st' := [_]) rfl rfl ?_
      refine cl.v0V (hc_fix 13 (by decide) (cw_c13 _)) rfl (by decide) rfl ⟨Nat.le_of_ble_eq_true rfl, rfl⟩ (Nat.le_of_ble_eq_true rfl) (c) ?_
      refine jx_T.step (pc' := 52) (ls' := [_, _, _, _, _]) (st' := []) rfl rfl ?_
      refine jx_T.step (pc' := 35) (st' := []) rfl rfl ?_
      rw [nI_1]
      exact t
  obtain ⟨W2, t, K2, f2⟩ := loop (sv_n S - 1) 1 (cw_L (cw_I (cw_I (cw_I (cw_Q W 13 (.ref a)) 13 1 0) 13 2 (sv_hotter S)) 13 3 (sv_of S (sv_ff S) 0)) 13 4 x) (0, sv_hotter S, sv_of S (sv_ff S) 0, x) (by omega) (by omega) (Nat.zero_le _) ⟨rfl, rfl, rfl, rfl, rfl⟩ (kr_13.Qv.tr (kr_13.I.tr (kr_13.I.tr (kr_13.I.tr kr_13.L))))
  refine ⟨W2, ?_, K2, f2⟩
  show jx_T 50 0 [.ref 13, .ref a, .long x, .retAddr 0, .retAddr 0] [] _ _ _
  refine jx_T.step (pc' := 1) (st' := [_]) rfl rfl ?_
  refine jx_T.step (pc' := 2) (st' := [_, _]) rfl rfl ?_
  refine cl.put 13 (by decide) rfl (cw_c13 _) (Nat.le_of_ble_eq_true rfl) rfl (cw_f13_0 _ _) ?_
  refine jx_T.step (pc' := 6) (st' := [_]) rfl rfl ?_
  refine jx_T.step (pc' := 7) (st' := [_, _]) rfl rfl ?_
  refine cl.put 13 (by decide) rfl (cw_c13 _) (Nat.le_of_ble_eq_true rfl) rfl (cw_f13_1 _ _) ?_
  refine jx_T.step (pc' := 11) (st' := [_]) rfl rfl ?_
  refine jx_T.step (pc' := 12) (st' := [_, _]) rfl rfl ?_
  refine cl.geti (q1).1 (q1).2 rfl rfl ?_
  refine cl.put 13 (by decide) rfl (cw_c13 _) (Nat.le_of_ble_eq_true rfl) rfl (cw_f13_2 _ _) ?_
  refine jx_T.step (pc' := 19) (st' := [_]) rfl rfl ?_
  refine jx_T.step (pc' := 20) (st' := [_, _]) rfl rfl ?_
  refine jx_T.step (pc' := 21) (st' := [_, _, _]) rfl rfl ?_
  refine cl.v1I (hc_imm (q1).1 (q1).2) rfl (by decide) rfl ⟨Nat.le_of_ble_eq_true rfl, rfl⟩ (Nat.le_of_ble_eq_true rfl) (cf _) ?_
  refine cl.put 13 (by decide) rfl (cw_c13 _) (Nat.le_of_ble_eq_true rfl) rfl (cw_f13_3 _ _) ?_
  refine jx_T.step (pc' := 28) (st' := [_]) rfl rfl ?_
  refine jx_T.step (pc' := 29) (st' := [_, _]) rfl rfl ?_
  refine cl.put 13 (by decide) rfl (cw_c13 _) (Nat.le_of_ble_eq_true rfl) rfl (cw_f13_4 _ _) ?_
  refine jx_T.step (pc' := 33) (st' := [_]) rfl rfl ?_
  refine jx_T.step (pc' := 35) (ls' := [_, _, _, _, _]) (st' := []) rfl rfl ?_
  exact t
end
def kp_14 (W : cw) (a : Nat) (q : plv) : Prop := W.2.2.2.2.2 14 = .ref a ∧ W.2.2.1 14 1 = nI q.1 ∧ W.2.2.1 14 2 = q.2.1 ∧ W.2.2.1 14 3 = q.2.2.1 ∧ W.2.2.2.1 14 4 = q.2.2.2
def kr_14 (W W2 : cw) : Prop := W2.1 = W.1 ∧ W2.2.1 = W.2.1 ∧ (∀ k y, k ≠ 14 → W2.2.2.1 k y = W.2.2.1 k y) ∧ (∀ k y, k ≠ 14 → W2.2.2.2.1 k y = W.2.2.2.1 k y) ∧ W2.2.2.2.2.1 = W.2.2.2.2.1 ∧ ∀ k, k ≠ 14 → W2.2.2.2.2.2 k = W.2.2.2.2.2 k
theorem kr_14.rf {W : cw} : kr_14 W W := ⟨rfl, rfl, fun _ _ _ => rfl, fun _ _ _ => rfl, rfl, fun _ _ => rfl⟩
theorem kr_14.tr {W W2 W3 : cw} (a : kr_14 W W2) (b : kr_14 W2 W3) : kr_14 W W3 := ⟨b.1.trans a.1, b.2.1.trans a.2.1, fun k y h => (b.2.2.1 k y h).trans (a.2.2.1 k y h), fun k y h => (b.2.2.2.1 k y h).trans (a.2.2.2.1 k y h), b.2.2.2.2.1.trans a.2.2.2.2.1, fun k h => (b.2.2.2.2.2 k h).trans (a.2.2.2.2.2 k h)⟩
theorem kr_14.I {W : cw} {y : Nat} {v : Int32} : kr_14 W (cw_I W 14 y v) := ⟨rfl, rfl, fun k z h => if_neg (fun q => h q.1), fun _ _ _ => rfl, rfl, fun _ _ => rfl⟩
theorem kr_14.L {W : cw} {y : Nat} {v : Int64} : kr_14 W (cw_L W 14 y v) := ⟨rfl, rfl, fun _ _ _ => rfl, fun k z h => if_neg (fun q => h q.1), rfl, fun _ _ => rfl⟩
theorem kr_14.Qv {W : cw} {v : Value} : kr_14 W (cw_Q W 14 v) := ⟨rfl, rfl, fun _ _ _ => rfl, fun _ _ _ => rfl, rfl, fun k h => if_neg h⟩
section
variable {W : cw} {g : Nat → Option jx_E} {nx s a : Nat} {S : sv} {q : plv}
theorem kc_step14 (im : im_str g a S) (h8 : sv_n S ≤ 8) (K : kp_14 W a q) (hq : q.1 ≤ 8) : ∃ W2, jx_T 51 0 (jx_ent 51 [.ref 14]) [] (hc W g nx s) none (hc W2 g nx s) ∧ kp_14 W2 a (pq_st S q) ∧ kr_14 W W2 := by
  obtain ⟨k0, k1, k2, k3, k4⟩ := K
  have ch := fun W => kc_heatOfSpan W nx s im h8 (nI q.1)
  have cf := fun W => kc_flowOfSpan W nx s im h8 (nI (q.1 + 1))
  obtain ⟨ad, af, q1, q2, q3⟩ := im
  unfold pq_st
  by_cases z : q.1 + 1 < sv_n S ∧ ¬ q.2.2.2 < pq_h S q.1
  · rw [if_pos z]
    refine ⟨cw_I (cw_I (cw_I (cw_L W 14 4 (q.2.2.2 - pq_h S q.1)) 14 2 (q.2.1 - sv_fd S q.1)) 14 1 (nI (q.1 + 1))) 14 3 (sv_of S (sv_ff S) (nI (q.1 + 1))), ?_, ⟨k0, rfl, rfl, rfl, rfl⟩, kr_14.L.tr (kr_14.I.tr (kr_14.I.tr kr_14.I))⟩
    have a0 : ∀ v, (cw_L W 14 4 v).2.2.2.2.2 14 = .ref a := fun _ => k0
    have a1 : ∀ v, (cw_L W 14 4 v).2.2.1 14 1 = nI q.1 := fun _ => k1
    have a2 : ∀ v, (cw_L W 14 4 v).2.2.1 14 2 = q.2.1 := fun _ => k2
    have b1 : ∀ v u, (cw_I (cw_L W 14 4 v) 14 2 u).2.2.1 14 1 = nI q.1 := fun _ _ => k1
    have c0 : ∀ v u w, (cw_I (cw_I (cw_L W 14 4 v) 14 2 u) 14 1 w).2.2.2.2.2 14 = .ref a := fun _ _ _ => k0
    have c1 : ∀ v u w, (cw_I (cw_I (cw_L W 14 4 v) 14 2 u) 14 1 w).2.2.1 14 1 = w := fun _ _ _ => rfl
    show jx_T 51 0 [.ref 14] [] _ _ _
    refine jx_T.step (pc' := 1) (st' := [_]) rfl rfl ?_
    refine cl.get 14 (by decide) rfl (cw_c14 _) rfl ?_
    rw [k0]
    refine jx_T.step (pc' := 7) (st' := []) rfl rfl ?_
    refine jx_T.step (pc' := 8) (st' := [_]) rfl rfl ?_
    refine cl.get 14 (by decide) rfl (cw_c14 _) rfl ?_
    refine jx_T.step (pc' := 12) (st' := [_, _]) rfl rfl ?_
    rw [k1]
    refine jx_T.step (pc' := 13) (st' := [_]) rfl rfl ?_
    refine jx_T.step (pc' := 14) (st' := [_, _]) rfl rfl ?_
    refine cl.get 14 (by decide) rfl (cw_c14 _) rfl ?_
    rw [k0, nI_1]
    refine cl.geti (q1).1 (q1).2 rfl rfl ?_
    refine cl.aleni (q2).1 (q2).2 rfl (Or.inl (by decide)) ?_
    refine cl.bc rfl (jx_br_ge _ _) (fun zq => absurd zq (nI_ge z.1 (by omega))) (fun _ => ?_)
    refine jx_T.step (pc' := 25) (st' := [_]) rfl rfl ?_
    refine cl.get 14 (by decide) rfl (cw_c14 _) rfl ?_
    refine jx_T.step (pc' := 29) (st' := [_, _]) rfl rfl ?_
    refine cl.get 14 (by decide) rfl (cw_c14 _) rfl ?_
    rw [k0, k4]
    refine jx_T.step (pc' := 33) (st' := [_, _, _]) rfl rfl ?_
    refine cl.get 14 (by decide) rfl (cw_c14 _) rfl ?_
    rw [k1]
    refine cl.v1I (hc_imm (q1).1 (q1).2) rfl (by decide) rfl ⟨Nat.le_of_ble_eq_true rfl, rfl⟩ (Nat.le_of_ble_eq_true rfl) (ch _) ?_
    refine jx_T.step (pc' := 40) (st' := [_]) rfl rfl ?_
    refine cl.br rfl (jx_br_lt _ _) (fun zq => absurd zq (fun y => z.2 ((lg_cmp_lt0 _ _).mp y))) (fun _ => ?_)
    refine jx_T.step (pc' := 44) (st' := [_]) rfl rfl ?_
    refine jx_T.step (pc' := 45) (st' := [_, _]) rfl rfl ?_
    refine cl.get 14 (by decide) rfl (cw_c14 _) rfl ?_
    refine jx_T.step (pc' := 49) (st' := [_, _, _]) rfl rfl ?_
    refine cl.get 14 (by decide) rfl (cw_c14 _) rfl ?_
    rw [k0, k4]
    refine jx_T.step (pc' := 53) (st' := [_, _, _, _]) rfl rfl ?_
    refine cl.get 14 (by decide) rfl (cw_c14 _) rfl ?_
    rw [k1]
    refine cl.v1I (hc_imm (q1).1 (q1).2) rfl (by decide) rfl ⟨Nat.le_of_ble_eq_true rfl, rfl⟩ (Nat.le_of_ble_eq_true rfl) (ch _) ?_
    refine jx_T.step (pc' := 60) (st' := [_, _]) rfl rfl ?_
    refine cl.put 14 (by decide) rfl (cw_c14 _) (Nat.le_of_ble_eq_true rfl) rfl (cw_f14_4 _ _) ?_
    refine jx_T.step (pc' := 64) (st' := [_]) rfl rfl ?_
    refine jx_T.step (pc' := 65) (st' := [_, _]) rfl rfl ?_
    refine cl.get 14 (by decide) rfl (cw_c14 _) rfl ?_
    refine jx_T.step (pc' := 69) (st' := [_, _, _]) rfl rfl ?_
    refine cl.get 14 (by decide) rfl (cw_c14 _) rfl ?_
    rw [a0, a2]
    refine cl.geti (q1).1 (q1).2 rfl rfl ?_
    refine jx_T.step (pc' := 76) (st' := [_, _, _, _]) rfl rfl ?_
    refine cl.get 14 (by decide) rfl (cw_c14 _) rfl ?_
    rw [a1]
    refine cl.ialdi (q2).1 (q2).2 rfl (rf_ix (by omega) (by omega)) ?_
    rw [nI_clamp (by omega)]
    refine jx_T.step (pc' := 81) (st' := [_, _]) rfl rfl ?_
    refine cl.put 14 (by decide) rfl (cw_c14 _) (Nat.le_of_ble_eq_true rfl) rfl (cw_f14_2 _ _) ?_
    refine jx_T.step (pc' := 85) (st' := [_]) rfl rfl ?_
    refine jx_T.step (pc' := 86) (st' := [_, _]) rfl rfl ?_
    refine cl.get 14 (by decide) rfl (cw_c14 _) rfl ?_
    rw [b1]
    refine jx_T.step (pc' := 90) (st' := [_, _, _]) rfl rfl ?_
    refine jx_T.step (pc' := 91) (st' := [_, _]) rfl rfl ?_
    rw [nI_1]
    refine cl.put 14 (by decide) rfl (cw_c14 _) (Nat.le_of_ble_eq_true rfl) rfl (cw_f14_1 _ _) ?_
    refine jx_T.step (pc' := 95) (st' := [_]) rfl rfl ?_
    refine jx_T.step (pc' := 96) (st' := [_, _]) rfl rfl ?_
    refine cl.get 14 (by decide) rfl (cw_c14 _) rfl ?_
    rw [c0]
    refine jx_T.step (pc' := 100) (st' := [_, _, _]) rfl rfl ?_
    refine cl.get 14 (by decide) rfl (cw_c14 _) rfl ?_
    rw [c1]
    refine cl.v1I (hc_imm (q1).1 (q1).2) rfl (by decide) rfl ⟨Nat.le_of_ble_eq_true rfl, rfl⟩ (Nat.le_of_ble_eq_true rfl) (cf _) ?_
    refine cl.put 14 (by decide) rfl (cw_c14 _) (Nat.le_of_ble_eq_true rfl) rfl (cw_f14_3 _ _) ?_
    exact jx_T.ret rfl rfl
  · rw [if_neg z]
    refine ⟨W, ?_, ⟨k0, k1, k2, k3, k4⟩, kr_14.rf⟩
    show jx_T 51 0 [.ref 14] [] _ _ _
    refine jx_T.step (pc' := 1) (st' := [_]) rfl rfl ?_
    refine cl.get 14 (by decide) rfl (cw_c14 _) rfl ?_
    rw [k0]
    refine jx_T.step (pc' := 7) (st' := []) rfl rfl ?_
    refine jx_T.step (pc' := 8) (st' := [_]) rfl rfl ?_
    refine cl.get 14 (by decide) rfl (cw_c14 _) rfl ?_
    refine jx_T.step (pc' := 12) (st' := [_, _]) rfl rfl ?_
    rw [k1]
    refine jx_T.step (pc' := 13) (st' := [_]) rfl rfl ?_
    refine jx_T.step (pc' := 14) (st' := [_, _]) rfl rfl ?_
    refine cl.get 14 (by decide) rfl (cw_c14 _) rfl ?_
    rw [k0, nI_1]
    refine cl.geti (q1).1 (q1).2 rfl rfl ?_
    refine cl.aleni (q2).1 (q2).2 rfl (Or.inl (by decide)) ?_
    by_cases y : q.1 + 1 < sv_n S
    · refine cl.bc rfl (jx_br_ge _ _) (fun zq => absurd zq (nI_ge y (by omega))) (fun _ => ?_)
      refine jx_T.step (pc' := 25) (st' := [_]) rfl rfl ?_
      refine cl.get 14 (by decide) rfl (cw_c14 _) rfl ?_
      refine jx_T.step (pc' := 29) (st' := [_, _]) rfl rfl ?_
      refine cl.get 14 (by decide) rfl (cw_c14 _) rfl ?_
      rw [k0, k4]
      refine jx_T.step (pc' := 33) (st' := [_, _, _]) rfl rfl ?_
      refine cl.get 14 (by decide) rfl (cw_c14 _) rfl ?_
      rw [k1]
      refine cl.v1I (hc_imm (q1).1 (q1).2) rfl (by decide) rfl ⟨Nat.le_of_ble_eq_true rfl, rfl⟩ (Nat.le_of_ble_eq_true rfl) (ch _) ?_
      refine jx_T.step (pc' := 40) (st' := [_]) rfl rfl ?_
      refine cl.br rfl (jx_br_lt _ _) (fun _ => ?_) (fun zq => absurd ((lg_cmp_lt0 _ _).mpr (Decidable.not_not.mp (fun x => z ⟨y, x⟩))) zq)
      exact jx_T.ret rfl rfl
    · refine cl.bc rfl (jx_br_ge _ _) (fun _ => ?_) (fun zq => absurd (nI_le (by omega) (by omega)) zq)
      exact jx_T.ret rfl rfl
theorem kc_under14 (K : kp_14 W a q) : jx_T 52 0 (jx_ent 52 [.ref 14]) [] (hc W g nx s) (some (.long (pq_un q))) (hc W g nx s) := by
  obtain ⟨k0, k1, k2, k3, k4⟩ := K
  unfold pq_un
  show jx_T 52 0 [.ref 14] [] _ _ _
  refine jx_T.step (pc' := 1) (st' := [_]) rfl rfl ?_
  refine cl.get 14 (by decide) rfl (cw_c14 _) rfl ?_
  rw [k3]
  by_cases z : q.2.2.1 = 0
  · rw [if_pos z]
    refine cl.brn rfl (fun zq => absurd (z) zq) (fun _ => ?_)
    refine jx_T.step (pc' := 8) (st' := [_]) rfl rfl ?_
    refine jx_T.step (pc' := 16) (st' := [_]) rfl rfl ?_
    exact jx_T.ret rfl rfl
  · rw [if_neg z]
    refine cl.brn rfl (fun _ => ?_) (fun zq => absurd zq (z))
    refine jx_T.step (pc' := 12) (st' := [_]) rfl rfl ?_
    refine cl.get 14 (by decide) rfl (cw_c14 _) rfl ?_
    rw [k3]
    refine jx_T.step (pc' := 16) (st' := [_]) rfl rfl ?_
    exact jx_T.ret rfl rfl
theorem kc_over14 (K : kp_14 W a q) : jx_T 53 0 (jx_ent 53 [.ref 14]) [] (hc W g nx s) (some (.long (pq_ov q))) (hc W g nx s) := by
  obtain ⟨k0, k1, k2, k3, k4⟩ := K
  unfold pq_ov
  show jx_T 53 0 [.ref 14] [] _ _ _
  refine jx_T.step (pc' := 1) (st' := [_]) rfl rfl ?_
  refine cl.get 14 (by decide) rfl (cw_c14 _) rfl ?_
  rw [k3]
  by_cases z : q.2.2.1 = 0
  · rw [if_pos z]
    refine cl.brn rfl (fun zq => absurd (z) zq) (fun _ => ?_)
    refine jx_T.step (pc' := 8) (st' := [_]) rfl rfl ?_
    refine cl.get 14 (by decide) rfl (cw_c14 _) rfl ?_
    rw [k2]
    refine jx_T.step (pc' := 12) (st' := [_]) rfl rfl ?_
    refine jx_T.step (pc' := 31) (st' := [_]) rfl rfl ?_
    exact jx_T.ret rfl rfl
  · rw [if_neg z]
    refine cl.brn rfl (fun _ => ?_) (fun zq => absurd zq (z))
    refine jx_T.step (pc' := 16) (st' := [_]) rfl rfl ?_
    refine cl.get 14 (by decide) rfl (cw_c14 _) rfl ?_
    rw [k2]
    refine jx_T.step (pc' := 20) (st' := [_]) rfl rfl ?_
    refine jx_T.step (pc' := 21) (st' := [_, _]) rfl rfl ?_
    refine cl.get 14 (by decide) rfl (cw_c14 _) rfl ?_
    rw [k3]
    refine jx_T.step (pc' := 25) (st' := [_, _]) rfl rfl ?_
    refine jx_T.step (pc' := 26) (st' := [_]) rfl rfl ?_
    refine jx_T.step (pc' := 27) (st' := [_, _]) rfl rfl ?_
    refine cl.get 14 (by decide) rfl (cw_c14 _) rfl ?_
    rw [k4]
    refine jx_T.step (pc' := 31) (st' := [_]) rfl rfl ?_
    exact jx_T.ret rfl rfl
theorem kc_toBend14 (im : im_str g a S) (h8 : sv_n S ≤ 8) (K : kp_14 W a q) : jx_T 54 0 (jx_ent 54 [.ref 14]) [] (hc W g nx s) (some (.long (pq_tb S q))) (hc W g nx s) := by
  obtain ⟨k0, k1, k2, k3, k4⟩ := K
  have ch := kc_heatOfSpan W nx s im h8 (nI q.1)
  obtain ⟨ad, af, q1, q2, q3⟩ := im
  unfold pq_tb
  show jx_T 54 0 [.ref 14] [] _ _ _
  refine jx_T.step (pc' := 1) (st' := [_]) rfl rfl ?_
  refine cl.get 14 (by decide) rfl (cw_c14 _) rfl ?_
  rw [k0]
  refine jx_T.step (pc' := 7) (st' := []) rfl rfl ?_
  refine jx_T.step (pc' := 8) (st' := [_]) rfl rfl ?_
  refine cl.get 14 (by decide) rfl (cw_c14 _) rfl ?_
  rw [k3]
  by_cases z : q.2.2.1 = 0
  · rw [if_pos z]
    refine cl.brn rfl (fun zq => absurd (z) zq) (fun _ => ?_)
    refine jx_T.step (pc' := 17) (st' := [_]) rfl rfl ?_
    refine jx_T.step (pc' := 36) (st' := [_]) rfl rfl ?_
    exact jx_T.ret rfl rfl
  · rw [if_neg z]
    refine cl.brn rfl (fun _ => ?_) (fun zq => absurd zq (z))
    refine jx_T.step (pc' := 21) (st' := [_]) rfl rfl ?_
    refine cl.get 14 (by decide) rfl (cw_c14 _) rfl ?_
    rw [k0]
    refine jx_T.step (pc' := 25) (st' := [_, _]) rfl rfl ?_
    refine cl.get 14 (by decide) rfl (cw_c14 _) rfl ?_
    rw [k1]
    refine cl.v1I (hc_imm (q1).1 (q1).2) rfl (by decide) rfl ⟨Nat.le_of_ble_eq_true rfl, rfl⟩ (Nat.le_of_ble_eq_true rfl) (ch) ?_
    refine jx_T.step (pc' := 32) (st' := [_, _]) rfl rfl ?_
    refine cl.get 14 (by decide) rfl (cw_c14 _) rfl ?_
    rw [k4]
    refine jx_T.step (pc' := 36) (st' := [_]) rfl rfl ?_
    exact jx_T.ret rfl rfl
theorem kc_move14 (im : im_str g a S) (h8 : sv_n S ≤ 8) (K : kp_14 W a q) (hq : q.1 ≤ 8) (x : Int64) : ∃ W2, jx_T 55 0 (jx_ent 55 [.ref 14, .long x]) [] (hc W g nx s) none (hc W2 g nx s) ∧ kp_14 W2 a (pq_mv S q x) ∧ kr_14 W W2 := by
  obtain ⟨k0, k1, k2, k3, k4⟩ := K
  obtain ⟨W2, c, K2, f⟩ := kc_step14 (nx := nx) (s := s) (W := cw_L W 14 4 (q.2.2.2 + x)) (q := (q.1, q.2.1, q.2.2.1, q.2.2.2 + x)) im h8 ⟨k0, k1, k2, k3, rfl⟩ hq
  refine ⟨W2, ?_, K2, kr_14.L.tr f⟩
  show jx_T 55 0 [.ref 14, .long x, .retAddr 0] [] _ _ _
  refine jx_T.step (pc' := 1) (st' := [_]) rfl rfl ?_
  refine jx_T.step (pc' := 2) (st' := [_, _]) rfl rfl ?_
  refine cl.get 14 (by decide) rfl (cw_c14 _) rfl ?_
  rw [k4]
  refine jx_T.step (pc' := 6) (st' := [_, _, _]) rfl rfl ?_
  refine jx_T.step (pc' := 7) (st' := [_, _]) rfl rfl ?_
  refine cl.put 14 (by decide) rfl (cw_c14 _) (Nat.le_of_ble_eq_true rfl) rfl (cw_f14_4 _ _) ?_
  refine jx_T.step (pc' := 11) (st' := [_]) rfl rfl ?_
  refine cl.v0V (hc_fix 14 (by decide) (cw_c14 _)) rfl (by decide) rfl ⟨Nat.le_of_ble_eq_true rfl, rfl⟩ (Nat.le_of_ble_eq_true rfl) (c) ?_
  exact jx_T.ret rfl rfl
theorem kc_put14 (W : cw) (im : im_str g a S) (h8 : sv_n S ≤ 8) (x : Int64) : ∃ W2, jx_T 50 0 (jx_ent 50 [.ref 14, .ref a, .long x]) [] (hc W g nx s) none (hc W2 g nx s) ∧ kp_14 W2 a (pq_put S x) ∧ kr_14 W W2 := by
  have im0 := im
  have cf := fun W => kc_flowOfSpan W nx s im h8 0
  obtain ⟨ad, af, q1, q2, q3⟩ := im
  have loop : ∀ d k (W1 : cw) (q : plv), 1 ≤ k → k + d = max 1 (sv_n S) → q.1 ≤ sv_n S → kp_14 W1 a q → kr_14 W W1 → ∃ W2, jx_T 50 35 [.ref 14, .ref a, .long x, .retAddr 0, .int (nI k)] [] (hc W1 g nx s) none (hc W2 g nx s) ∧ kp_14 W2 a (pq_it S d q) ∧ kr_14 W W2 := by
    intro d
    induction d with
    | zero =>
      intro k W1 q hk1 hk hq K f
      refine ⟨W1, ?_, K, f⟩
      refine jx_T.step (pc' := 37) (st' := [_]) rfl rfl ?_
      refine jx_T.step (pc' := 38) (st' := [_, _]) rfl rfl ?_
      refine cl.geti (q1).1 (q1).2 rfl rfl ?_
      refine cl.aleni (q2).1 (q2).2 rfl (Or.inl (by decide)) ?_
      refine cl.bc rfl (jx_br_ge _ _) (fun _ => ?_) (fun zq => absurd (nI_le (by omega) (by omega)) zq)
      exact jx_T.ret rfl rfl
    | succ d ih =>
      intro k W1 q hk1 hk hq K f
      obtain ⟨W2, c, K2, f2⟩ := kc_step14 (nx := nx) (s := s) im0 h8 K (by omega)
      obtain ⟨W3, t, K3, f3⟩ := ih (k + 1) W2 (pq_st S q) (by omega) (by omega) (pq_st_le S q hq) K2 (f.tr f2)
      refine ⟨W3, ?_, K3, f3⟩
      refine jx_T.step (pc' := 37) (st' := [_]) rfl rfl ?_
      refine jx_T.step (pc' := 38) (st' := [_, _]) rfl rfl ?_
      refine cl.geti (q1).1 (q1).2 rfl rfl ?_
      refine cl.aleni (q2).1 (q2).2 rfl (Or.inl (by decide)) ?_
      refine cl.bc rfl (jx_br_ge _ _) (fun zq => absurd zq (nI_ge (by omega) (by omega))) (fun _ => ?_)
      refine jx_T.step (pc' := 46) (st' := [_]) rfl rfl ?_
      refine cl.v0V (hc_fix 14 (by decide) (cw_c14 _)) rfl (by decide) rfl ⟨Nat.le_of_ble_eq_true rfl, rfl⟩ (Nat.le_of_ble_eq_true rfl) (c) ?_
      refine jx_T.step (pc' := 52) (ls' := [_, _, _, _, _]) (st' := []) rfl rfl ?_
      refine jx_T.step (pc' := 35) (st' := []) rfl rfl ?_
      rw [nI_1]
      exact t
  obtain ⟨W2, t, K2, f2⟩ := loop (sv_n S - 1) 1 (cw_L (cw_I (cw_I (cw_I (cw_Q W 14 (.ref a)) 14 1 0) 14 2 (sv_hotter S)) 14 3 (sv_of S (sv_ff S) 0)) 14 4 x) (0, sv_hotter S, sv_of S (sv_ff S) 0, x) (by omega) (by omega) (Nat.zero_le _) ⟨rfl, rfl, rfl, rfl, rfl⟩ (kr_14.Qv.tr (kr_14.I.tr (kr_14.I.tr (kr_14.I.tr kr_14.L))))
  refine ⟨W2, ?_, K2, f2⟩
  show jx_T 50 0 [.ref 14, .ref a, .long x, .retAddr 0, .retAddr 0] [] _ _ _
  refine jx_T.step (pc' := 1) (st' := [_]) rfl rfl ?_
  refine jx_T.step (pc' := 2) (st' := [_, _]) rfl rfl ?_
  refine cl.put 14 (by decide) rfl (cw_c14 _) (Nat.le_of_ble_eq_true rfl) rfl (cw_f14_0 _ _) ?_
  refine jx_T.step (pc' := 6) (st' := [_]) rfl rfl ?_
  refine jx_T.step (pc' := 7) (st' := [_, _]) rfl rfl ?_
  refine cl.put 14 (by decide) rfl (cw_c14 _) (Nat.le_of_ble_eq_true rfl) rfl (cw_f14_1 _ _) ?_
  refine jx_T.step (pc' := 11) (st' := [_]) rfl rfl ?_
  refine jx_T.step (pc' := 12) (st' := [_, _]) rfl rfl ?_
  refine cl.geti (q1).1 (q1).2 rfl rfl ?_
  refine cl.put 14 (by decide) rfl (cw_c14 _) (Nat.le_of_ble_eq_true rfl) rfl (cw_f14_2 _ _) ?_
  refine jx_T.step (pc' := 19) (st' := [_]) rfl rfl ?_
  refine jx_T.step (pc' := 20) (st' := [_, _]) rfl rfl ?_
  refine jx_T.step (pc' := 21) (st' := [_, _, _]) rfl rfl ?_
  refine cl.v1I (hc_imm (q1).1 (q1).2) rfl (by decide) rfl ⟨Nat.le_of_ble_eq_true rfl, rfl⟩ (Nat.le_of_ble_eq_true rfl) (cf _) ?_
  refine cl.put 14 (by decide) rfl (cw_c14 _) (Nat.le_of_ble_eq_true rfl) rfl (cw_f14_3 _ _) ?_
  refine jx_T.step (pc' := 28) (st' := [_]) rfl rfl ?_
  refine jx_T.step (pc' := 29) (st' := [_, _]) rfl rfl ?_
  refine cl.put 14 (by decide) rfl (cw_c14 _) (Nat.le_of_ble_eq_true rfl) rfl (cw_f14_4 _ _) ?_
  refine jx_T.step (pc' := 33) (st' := [_]) rfl rfl ?_
  refine jx_T.step (pc' := 35) (ls' := [_, _, _, _, _]) (st' := []) rfl rfl ?_
  exact t
end
