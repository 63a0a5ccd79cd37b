/-! leastSum, price -/
theorem pz_h01 (T : tv) (L : List Int32) (w : Int32) (i k : Nat) : pz_h T L w i k 0 = 0 ∨ pz_h T L w i k 1 = 0 := by
  unfold pz_h
  rw [if_neg (by decide), if_pos rfl]
  by_cases z : sv_sd (T.2.2.1 i) T.1 (L.getD k 0)
  · right
    unfold sv_fb
    rw [z.1]
    show (if _ then (0 : Int32) else 0) * _ = 0
    rw [ite_self, Int32.zero_mul]
  · left
    rw [if_neg z]
theorem pz_c01 (T : tv) (L : List Int32) (w : Int32) (k : Nat) : ∀ i, pz_cg T L w k 0 i + pz_cg T L w k 1 i ≤ pz_hn T i ∧ pz_ck T L w k 0 i + pz_ck T L w k 1 i + pz_hn T i ≤ i
  | 0 => ⟨Nat.le_refl 0, Nat.le_refl 0⟩
  | i + 1 => by
    obtain ⟨h1, h2⟩ := pz_c01 T L w k i
    have h := pz_h01 T L w i k
    unfold pz_cg pz_ck pz_hn
    by_cases z : sv_hot (T.2.2.1 i) = 0
    · rw [if_pos (Or.inl z), if_pos (Or.inl z), if_pos z]
      rcases h with h | h
      · rw [if_pos (Or.inr h)]
        constructor
        · exact h1
        · split <;> omega
      · rw [if_pos (c := ¬ sv_hot (T.2.2.1 i) = 0 ∨ pz_h T L w i k 1 = 0) (Or.inr h)]
        constructor
        · exact h1
        · split <;> omega
    · rw [if_pos (c := ¬ sv_hot (T.2.2.1 i) = 0 ∨ pz_h T L w i k 0 = 0) (Or.inl z), if_pos (c := ¬ sv_hot (T.2.2.1 i) = 0 ∨ pz_h T L w i k 1 = 0) (Or.inl z), if_neg z]
      rcases h with h | h
      · rw [if_pos (c := sv_hot (T.2.2.1 i) = 0 ∨ pz_h T L w i k 0 = 0) (Or.inr h)]
        constructor
        · split <;> omega
        · omega
      · rw [if_pos (c := sv_hot (T.2.2.1 i) = 0 ∨ pz_h T L w i k 1 = 0) (Or.inr h)]
        constructor
        · split <;> omega
        · omega
theorem pz_54 : ∀ h, h < 13 → ∀ c, c < 13 → h + c ≤ 12 → 2 * h + (1 + h) * c ≤ 54 := by decide
def pz_a (T : tv) (L : List Int32) (w : Int32) : Nat → pz
  | 0 => (4, [], fun _ => none)
  | k + 1 => pz_pl T L w k 1 (pz_pl T L w k 0 (pz_a T L w k))
theorem pz_pl_len (T : tv) (L : List Int32) (w : Int32) (k l : Nat) (Z : pz) : (pz_pl T L w k l Z).1 = Z.1 + pz_cg T L w k l T.2.1 + pz_ck T L w k l T.2.1 ∧ (pz_pl T L w k l Z).2.1.length ≤ Z.2.1.length + 2 * pz_cg T L w k l T.2.1 + (1 + pz_hn T T.2.1) * pz_ck T L w k l T.2.1 := by
  have h1 := pz_p1_len T L w k l Z T.2.1
  have h2 := pz_p2_len T L w k l (pz_p1 T L w k l Z T.2.1) T.2.1
  unfold pz_pl
  generalize (1 + pz_hn T T.2.1) * pz_ck T L w k l T.2.1 = q at h2 ⊢
  omega
theorem pz_room {T : tv} (hM : T.2.1 ≤ 12) (L : List Int32) (w : Int32) (k : Nat) : pz_cg T L w k 0 T.2.1 + pz_ck T L w k 0 T.2.1 + (pz_cg T L w k 1 T.2.1 + pz_ck T L w k 1 T.2.1) ≤ 12 ∧ 2 * pz_cg T L w k 0 T.2.1 + (1 + pz_hn T T.2.1) * pz_ck T L w k 0 T.2.1 + (2 * pz_cg T L w k 1 T.2.1 + (1 + pz_hn T T.2.1) * pz_ck T L w k 1 T.2.1) ≤ 54 := by
  obtain ⟨h1, h2⟩ := pz_c01 T L w k T.2.1
  have h3 := pz_54 (pz_hn T T.2.1) (by omega) (pz_ck T L w k 0 T.2.1 + pz_ck T L w k 1 T.2.1) (by omega) (by omega)
  rw [Nat.mul_add] at h3
  constructor
  · omega
  · generalize (1 + pz_hn T T.2.1) * pz_ck T L w k 0 T.2.1 = q at h3 ⊢
    generalize (1 + pz_hn T T.2.1) * pz_ck T L w k 1 T.2.1 = q2 at h3 ⊢
    omega
theorem pz_a_len {T : tv} (hM : T.2.1 ≤ 12) (L : List Int32) (w : Int32) : ∀ k, (pz_a T L w k).1 ≤ 4 + 12 * k ∧ (pz_a T L w k).2.1.length ≤ 54 * k
  | 0 => ⟨Nat.le_refl _, Nat.le_refl _⟩
  | k + 1 => by
    obtain ⟨h1, h2⟩ := pz_a_len hM L w k
    obtain ⟨r1, r2⟩ := pz_room hM L w k
    have a0 := pz_pl_len T L w k 0 (pz_a T L w k)
    have a1 := pz_pl_len T L w k 1 (pz_pl T L w k 0 (pz_a T L w k))
    unfold pz_a
    omega
def pz_w (T : tv) : Int32 := pz_gs T T.2.1 + pz_ws T T.2.1
def pz_Z (T : tv) : pz := pz_a T (pz_L T T.2.1) (pz_w T) (pz_L T T.2.1).length
def pz_A (T : tv) : List gA := (pz_Z T).2.1 ++ [(0, 2, (pz_ws T T.2.1).toInt64, 0)] ++ [(2, 3, (pz_ws T T.2.1).toInt64, 0)] ++ [(3, 1, (pz_gs T T.2.1).toInt64, 0)]
section
variable {g : Nat → Option jx_E} {nx s x : Nat} {T : tv} {W : cw} {tot : Int}
theorem kc_leastSum (im : im_sta g x T) (okT : tv_ok T) (net : nq_net (pz_A T) (pz_Z T).1 tot) (hw : (pz_w T).toInt = tot) : ∃ W2 v, jx_T 57 0 (jx_ent 57 [.ref 19, .ref x]) [] (hc W g nx s) (some (.long v)) (hc W2 g nx s) ∧ kq_f W W2 ∧ nq_out (pz_A T) tot v := by
  have hM := okT.1
  obtain ⟨W1, c1, b1, b2, b3, b4, b5⟩ := kc_begin (nx := nx) (s := s) (W := W) im okT
  have hL := pz_L_len okT T.2.1 (Nat.le_refl _)
  have e1 : pz_e W1 (pz_L T T.2.1) (pz_w T) := ⟨b2, by omega, by rw [b3.1, b3.2]; rfl⟩
  have fin : ∀ (W2 : cw), kz_f W1 W2 → pz_W T.2.1 W2 (pz_Z T) → pz_ok (pz_Z T) → ∃ W3 v, jx_T 57 38 [.ref 19, .ref x, .int (nI (pz_L T T.2.1).length)] [] (hc W2 g nx s) (some (.long v)) (hc W3 g nx s) ∧ kq_f W W3 ∧ nq_out (pz_A T) tot v := by
    intro W2 f2 K2 ok2
    have len := pz_a_len hM (pz_L T T.2.1) (pz_w T) (pz_L T T.2.1).length
    have len : (pz_Z T).1 ≤ 4 + 12 * (pz_L T T.2.1).length ∧ (pz_Z T).2.1.length ≤ 54 * (pz_L T T.2.1).length := len
    have z4 := ok2.1
    have eg : W2.2.2.1 19 3 = pz_gs T T.2.1 := by rw [f2.2.2.1 19 3 (by decide)]; exact b3.1
    have ew : W2.2.2.1 19 4 = pz_ws T T.2.1 := by rw [f2.2.2.1 19 4 (by decide)]; exact b3.2
    obtain ⟨W3, c3, K3, ok3, g3⟩ := kc_lk (g := g) (nx := nx) (s := s) K2 ok2 (by omega) (by omega) 0 2 (by omega) (by omega) (pz_ws T T.2.1) 0
    obtain ⟨W4, c4, K4, ok4, g4⟩ := kc_lk (g := g) (nx := nx) (s := s) K3 ok3 (by show (pz_Z T).1 ≤ 1324; omega) (by show ((pz_Z T).2.1 ++ _).length < 5943; rw [List.length_append]; show _ + 1 < _; omega) 2 3 (by show 2 < (pz_Z T).1; omega) (by show 3 < (pz_Z T).1; omega) (pz_ws T T.2.1) 0
    obtain ⟨W5, c5, K5, ok5, g5⟩ := kc_lk (g := g) (nx := nx) (s := s) K4 ok4 (by show (pz_Z T).1 ≤ 1324; omega) (by show ((pz_Z T).2.1 ++ _ ++ _).length < 5943; rw [List.length_append, List.length_append]; show _ + 1 + 1 < _; omega) 3 1 (by show 3 < (pz_Z T).1; omega) (by show 1 < (pz_Z T).1; omega) (pz_gs T T.2.1) 0
    have ew3 : W3.2.2.1 19 4 = pz_ws T T.2.1 := by rw [g3.2.2.1 19 4 (by decide)]; exact ew
    have f4 := g3.tr g4
    have eg4 : W4.2.2.1 19 3 = pz_gs T T.2.1 := by rw [f4.2.2.1 19 3 (by decide)]; exact eg
    have f5 := f4.tr g5
    have eg5 : W5.2.2.1 19 3 = pz_gs T T.2.1 := by rw [f5.2.2.1 19 3 (by decide)]; exact eg
    have ew5 : W5.2.2.1 19 4 = pz_ws T T.2.1 := by rw [f5.2.2.1 19 4 (by decide)]; exact ew
    obtain ⟨W6, v, c6, f6, o6⟩ := kc_cheapest (g := g) (nx := nx) (s := s) W5 net K5.1 K5.2.1 (pz_w T) hw
    refine ⟨W6, v, ?_, ?_, o6⟩
    · refine jx_T.step (pc' := 39) (st' := [_]) rfl rfl ?_
      refine cl.get 19 (by decide) rfl (cw_c19 _) rfl ?_
      refine jx_T.step (pc' := 43) (st' := [_, _]) rfl rfl ?_
      refine jx_T.step (pc' := 44) (st' := [_, _, _]) rfl rfl ?_
      refine jx_T.step (pc' := 45) (st' := [_, _, _, _]) rfl rfl ?_
      refine cl.get 19 (by decide) rfl (cw_c19 _) rfl ?_
      rw [ew]
      refine jx_T.step (pc' := 49) (st' := [_, _, _, _, _]) rfl rfl ?_
      refine cl.v4V (hc_fix 22 (by decide) (cw_c22 _)) rfl (by decide) rfl ⟨Nat.le_of_ble_eq_true rfl, rfl⟩ (Nat.le_of_ble_eq_true rfl) (c3) ?_
      refine jx_T.step (pc' := 53) (st' := [_]) rfl rfl ?_
      refine cl.get 19 (by decide) rfl (cw_c19 _) rfl ?_
      refine jx_T.step (pc' := 57) (st' := [_, _]) rfl rfl ?_
      refine jx_T.step (pc' := 58) (st' := [_, _, _]) rfl rfl ?_
      refine jx_T.step (pc' := 59) (st' := [_, _, _, _]) rfl rfl ?_
      refine cl.get 19 (by decide) rfl (cw_c19 _) rfl ?_
      rw [ew3]
      refine jx_T.step (pc' := 63) (st' := [_, _, _, _, _]) rfl rfl ?_
      refine cl.v4V (hc_fix 22 (by decide) (cw_c22 _)) rfl (by decide) rfl ⟨Nat.le_of_ble_eq_true rfl, rfl⟩ (Nat.le_of_ble_eq_true rfl) (c4) ?_
      refine jx_T.step (pc' := 67) (st' := [_]) rfl rfl ?_
      refine cl.get 19 (by decide) rfl (cw_c19 _) rfl ?_
      refine jx_T.step (pc' := 71) (st' := [_, _]) rfl rfl ?_
      refine jx_T.step (pc' := 72) (st' := [_, _, _]) rfl rfl ?_
      refine jx_T.step (pc' := 73) (st' := [_, _, _, _]) rfl rfl ?_
      refine cl.get 19 (by decide) rfl (cw_c19 _) rfl ?_
      rw [eg4]
      refine jx_T.step (pc' := 77) (st' := [_, _, _, _, _]) rfl rfl ?_
      refine cl.v4V (hc_fix 22 (by decide) (cw_c22 _)) rfl (by decide) rfl ⟨Nat.le_of_ble_eq_true rfl, rfl⟩ (Nat.le_of_ble_eq_true rfl) (c5) ?_
      refine jx_T.step (pc' := 81) (st' := [_]) rfl rfl ?_
      refine cl.get 19 (by decide) rfl (cw_c19 _) rfl ?_
      refine jx_T.step (pc' := 85) (st' := [_, _]) rfl rfl ?_
      refine jx_T.step (pc' := 86) (st' := [_, _, _]) rfl rfl ?_
      refine jx_T.step (pc' := 87) (st' := [_, _, _, _]) rfl rfl ?_
      refine cl.get 19 (by decide) rfl (cw_c19 _) rfl ?_
      refine jx_T.step (pc' := 91) (st' := [_, _, _, _, _]) rfl rfl ?_
      refine cl.get 19 (by decide) rfl (cw_c19 _) rfl ?_
      rw [eg5, ew5]
      refine jx_T.step (pc' := 95) (st' := [_, _, _, _]) rfl rfl ?_
      refine cl.v3I (hc_fix 22 (by decide) (cw_c22 _)) rfl (by decide) rfl ⟨Nat.le_of_ble_eq_true rfl, rfl⟩ (Nat.le_of_ble_eq_true rfl) (c6) ?_
      exact jx_T.ret rfl rfl
    · have a := (f2.tr f5.Z).Q
      have c := f6.Q
      exact ⟨fun y => (c.1 y).trans ((a.1 y).trans (b5.1 y)), c.2.1.trans (a.2.1.trans b5.2.1), c.2.2.trans (a.2.2.trans b5.2.2)⟩
  have loop : ∀ d k (W2 : cw), k + d = (pz_L T T.2.1).length → kz_f W1 W2 → pz_W T.2.1 W2 (pz_a T (pz_L T T.2.1) (pz_w T) k) → pz_ok (pz_a T (pz_L T T.2.1) (pz_w T) k) → ∃ W3 v, jx_T 57 7 [.ref 19, .ref x, .int (nI k)] [] (hc W2 g nx s) (some (.long v)) (hc W3 g nx s) ∧ kq_f W W3 ∧ nq_out (pz_A T) tot v := by
    intro d
    induction d with
    | zero =>
      intro k W2 hk f2 K2 ok2
      obtain rfl : k = (pz_L T T.2.1).length := by omega
      obtain ⟨W3, v, t3, r3⟩ := fin W2 f2 K2 ok2
      refine ⟨W3, v, ?_, r3⟩
      have e2 := e1.k f2
      refine jx_T.step (pc' := 8) (st' := [_]) rfl rfl ?_
      refine jx_T.step (pc' := 9) (st' := [_, _]) rfl rfl ?_
      refine cl.get 19 (by decide) rfl (cw_c19 _) rfl ?_
      refine cl.get 20 (by decide) rfl (cw_c20 _) rfl ?_
      rw [e2.1.1]
      refine cl.bc rfl (jx_br_ge _ _) (fun _ => ?_) (fun zq => absurd (Int32.le_refl _) zq)
      exact t3
    | succ d ih =>
      intro k W2 hk f2 K2 ok2
      have e2 := e1.k f2
      have len := pz_a_len hM (pz_L T T.2.1) (pz_w T) k
      obtain ⟨r1, r2⟩ := pz_room hM (pz_L T T.2.1) (pz_w T) k
      obtain ⟨W3, c3, K3, ok3, f3⟩ := kc_addPlace (nx := nx) (s := s) im okT e2 K2 ok2 k 0 (by omega) (Or.inl rfl) (by omega) (by omega)
      have l0 := pz_pl_len T (pz_L T T.2.1) (pz_w T) k 0 (pz_a T (pz_L T T.2.1) (pz_w T) k)
      have e3 := e2.k f3
      obtain ⟨W4, c4, K4, ok4, f4⟩ := kc_addPlace (nx := nx) (s := s) im okT e3 K3 ok3 k 1 (by omega) (Or.inr rfl) (by omega) (by omega)
      obtain ⟨W5, v, t5, r5⟩ := ih (k + 1) W4 (by omega) (f2.tr (f3.tr f4)) K4 ok4
      refine ⟨W5, v, ?_, r5⟩
      refine jx_T.step (pc' := 8) (st' := [_]) rfl rfl ?_
      refine jx_T.step (pc' := 9) (st' := [_, _]) rfl rfl ?_
      refine cl.get 19 (by decide) rfl (cw_c19 _) rfl ?_
      refine cl.get 20 (by decide) rfl (cw_c20 _) rfl ?_
      rw [e2.1.1]
      refine cl.bc rfl (jx_br_ge _ _) (fun zq => absurd zq (nI_ge (by omega) (by omega))) (fun _ => ?_)
      refine jx_T.step (pc' := 19) (st' := [_]) rfl rfl ?_
      refine jx_T.step (pc' := 20) (st' := [_, _]) rfl rfl ?_
      refine jx_T.step (pc' := 21) (st' := [_, _, _]) rfl rfl ?_
      refine jx_T.step (pc' := 22) (st' := [_, _, _, _]) rfl rfl ?_
      refine cl.v3V (hc_fix 19 (by decide) (cw_c19 _)) rfl (by decide) rfl ⟨Nat.le_of_ble_eq_true rfl, rfl⟩ (Nat.le_of_ble_eq_true rfl) (c3) ?_
      refine jx_T.step (pc' := 26) (st' := [_]) rfl rfl ?_
      refine jx_T.step (pc' := 27) (st' := [_, _]) rfl rfl ?_
      refine jx_T.step (pc' := 28) (st' := [_, _, _]) rfl rfl ?_
      refine jx_T.step (pc' := 29) (st' := [_, _, _, _]) rfl rfl ?_
      refine cl.v3V (hc_fix 19 (by decide) (cw_c19 _)) rfl (by decide) rfl ⟨Nat.le_of_ble_eq_true rfl, rfl⟩ (Nat.le_of_ble_eq_true rfl) (c4) ?_
      refine jx_T.step (pc' := 35) (ls' := [_, _, _]) (st' := []) rfl rfl ?_
      refine jx_T.step (pc' := 7) (st' := []) rfl rfl ?_
      rw [nI_1]
      exact t5
  obtain ⟨W2, v, t2, r2⟩ := loop (pz_L T T.2.1).length 0 W1 (by omega) kz_f.rf ⟨b1, fun i hi => absurd hi (Nat.not_lt_zero i), b4⟩ ⟨Nat.le_refl 4, fun a ha => absurd ha (List.not_mem_nil), fun i y hy => absurd (show (none : Option Nat) = some y from hy) (fun q => nomatch q)⟩
  refine ⟨W2, v, ?_, r2⟩
  show jx_T 57 0 [.ref 19, .ref x, .retAddr 0] [] _ _ _
  refine jx_T.step (pc' := 1) (st' := [_]) rfl rfl ?_
  refine jx_T.step (pc' := 2) (st' := [_, _]) rfl rfl ?_
  refine cl.v1V (hc_fix 19 (by decide) (cw_c19 _)) rfl (by decide) rfl ⟨Nat.le_of_ble_eq_true rfl, rfl⟩ (Nat.le_of_ble_eq_true rfl) (c1) ?_
  refine jx_T.step (pc' := 6) (st' := [_]) rfl rfl ?_
  refine jx_T.step (pc' := 7) (ls' := [_, _, _]) (st' := []) rfl rfl ?_
  exact t2
theorem kc_price_no (h : 40 ≤ W.2.2.1 1 9) : jx_T 123 0 (jx_ent 123 [.ref 1]) [] (hc W g nx s) (some (.long (-2))) (hc W g nx s) := by
  show jx_T 123 0 [.ref 1] [] _ _ _
  refine jx_T.step (pc' := 1) (st' := [_]) rfl rfl ?_
  refine cl.get 1 (by decide) rfl (cw_c1 _) rfl ?_
  refine jx_T.step (pc' := 6) (st' := [_, _]) rfl rfl ?_
  refine cl.bc rfl (jx_br_lt _ _) (fun zq => absurd zq (Int32.not_lt.mpr h)) (fun _ => ?_)
  refine jx_T.step (pc' := 12) (st' := [_]) rfl rfl ?_
  exact jx_T.ret rfl rfl
theorem kc_price (h : ¬ 40 ≤ W.2.2.1 1 9) (n : cl_now W g x T) (net : nq_net (pz_A T) (pz_Z T).1 tot) (hw : (pz_w T).toInt = tot) : ∃ W2 v, jx_T 123 0 (jx_ent 123 [.ref 1]) [] (hc W g nx s) (some (.long v)) (hc W2 g nx s) ∧ kq_f (cw_I W 1 9 (W.2.2.1 1 9 + 1)) W2 ∧ nq_out (pz_A T) tot v := by
  have n1 : cl_now (cw_I W 1 9 (W.2.2.1 1 9 + 1)) g x T := n
  obtain ⟨W1, e1⟩ : ∃ W1, W1 = cw_I W 1 9 (W.2.2.1 1 9 + 1) := ⟨_, rfl⟩
  rw [← e1] at n1 ⊢
  obtain ⟨W2, v, c2, f2, o2⟩ := kc_leastSum (nx := nx) (s := s) (W := W1) n1.2.1 n1.2.2 net hw
  refine ⟨W2, v, ?_, f2, o2⟩
  show jx_T 123 0 [.ref 1] [] _ _ _
  refine jx_T.step (pc' := 1) (st' := [_]) rfl rfl ?_
  refine cl.get 1 (by decide) rfl (cw_c1 _) rfl ?_
  refine jx_T.step (pc' := 6) (st' := [_, _]) rfl rfl ?_
  refine cl.bc rfl (jx_br_lt _ _) (fun _ => ?_) (fun zq => absurd (Int32.not_le.mp h) zq)
  refine jx_T.step (pc' := 14) (st' := [_]) rfl rfl ?_
  refine jx_T.step (pc' := 15) (st' := [_, _]) rfl rfl ?_
  refine cl.get 1 (by decide) rfl (cw_c1 _) rfl ?_
  refine jx_T.step (pc' := 19) (st' := [_, _, _]) rfl rfl ?_
  refine jx_T.step (pc' := 20) (st' := [_, _]) rfl rfl ?_
  refine cl.put 1 (by decide) rfl (cw_c1 _) (Nat.le_of_ble_eq_true rfl) rfl (cw_f1_9 _ _) ?_
  rw [← e1]
  refine jx_T.step (pc' := 24) (st' := [_]) rfl rfl ?_
  refine cl.get 1 (by decide) rfl (cw_c1 _) rfl ?_
  refine jx_T.step (pc' := 28) (st' := [_, _]) rfl rfl ?_
  refine cl.v0I (hc_fix 1 (by decide) (cw_c1 _)) rfl (by decide) rfl ⟨Nat.le_of_ble_eq_true rfl, rfl⟩ (Nat.le_of_ble_eq_true rfl) (kc_now nx s n1) ?_
  refine cl.v1I (hc_fix 19 (by decide) (cw_c19 _)) rfl (by decide) rfl ⟨Nat.le_of_ble_eq_true rfl, rfl⟩ (Nat.le_of_ble_eq_true rfl) (c2) ?_
  exact jx_T.ret rfl rfl
end
