/-! their levels -/
theorem kc_has4 (W : cw) (g : Nat → Option jx_E) (nx s n : Nat) (hn : n ≤ 110) (en : W.2.2.1 4 1 = nI n) (k : Int32) : jx_T 29 0 (jx_ent 29 [.ref 4, .int k]) [] (hc W g nx s) (some (.int (rf_o (0 ≤ k.toInt ∧ k.toInt < n)))) (hc W g nx s) := by
  show jx_T 29 0 [.ref 4, .int k] [] _ _ _
  refine jx_T.step (pc' := 1) (st' := [_]) rfl rfl ?_
  by_cases z : k < 0
  · rw [rf_of (fun q => by have := (rf_lt0 k).mp z; omega)]
    refine cl.br rfl (jx_br_lt _ _) (fun _ => ?_) (fun zq => absurd (z) zq)
    refine jx_T.step (pc' := 17) (st' := [_]) rfl rfl ?_
    exact jx_T.ret rfl rfl
  · refine cl.br rfl (jx_br_lt _ _) (fun zq => absurd zq (z)) (fun _ => ?_)
    obtain ⟨j, hj, rfl⟩ := rf_nn z
    refine jx_T.step (pc' := 5) (st' := [_]) rfl rfl ?_
    refine jx_T.step (pc' := 6) (st' := [_, _]) rfl rfl ?_
    refine cl.get 4 (by decide) rfl (cw_c4 _) rfl ?_
    rw [en]
    by_cases y : j < n
    · rw [rf_ot (by rw [nI_toInt hj]; omega)]
      refine cl.bc rfl (jx_br_ge _ _) (fun zq => absurd zq (nI_ge y (by omega))) (fun _ => ?_)
      refine jx_T.step (pc' := 13) (st' := [_]) rfl rfl ?_
      refine jx_T.step (pc' := 17) (st' := [_]) rfl rfl ?_
      exact jx_T.ret rfl rfl
    · rw [rf_of (by rw [nI_toInt hj]; omega)]
      refine cl.bc rfl (jx_br_ge _ _) (fun _ => ?_) (fun zq => absurd (nI_le (by omega) hj) zq)
      refine jx_T.step (pc' := 17) (st' := [_]) rfl rfl ?_
      exact jx_T.ret rfl rfl
theorem kc_place4 (W : cw) (g : Nat → Option jx_E) (nx s n : Nat) (hn : n ≤ 110) (en : W.2.2.1 4 1 = nI n) (v : Int32) : jx_T 27 0 (jx_ent 27 [.ref 4, .int v]) [] (hc W g nx s) (some (.int (nI (rf_pos (W.1 5) v n 0)))) (hc W g nx s) := by
  have loop : ∀ d k, k + d = n → jx_T 27 2 [.ref 4, .int v, .int (nI k)] [] (hc W g nx s) (some (.int (nI (rf_pos (W.1 5) v d k)))) (hc W g nx s) := by
    intro d
    induction d with
    | zero =>
      intro k hk
      obtain rfl : k = n := by omega
      refine jx_T.step (pc' := 3) (st' := [_]) rfl rfl ?_
      refine jx_T.step (pc' := 4) (st' := [_, _]) rfl rfl ?_
      refine cl.get 4 (by decide) rfl (cw_c4 _) rfl ?_
      rw [en]
      refine cl.bc rfl (jx_br_ge _ _) (fun _ => ?_) (fun zq => absurd (Int32.le_refl _) zq)
      refine jx_T.step (pc' := 27) (st' := [_]) rfl rfl ?_
      exact jx_T.ret rfl rfl
    | succ d ih =>
      intro k hk
      refine jx_T.step (pc' := 3) (st' := [_]) rfl rfl ?_
      refine jx_T.step (pc' := 4) (st' := [_, _]) rfl rfl ?_
      refine cl.get 4 (by decide) rfl (cw_c4 _) rfl ?_
      rw [en]
      refine cl.bc rfl (jx_br_ge _ _) (fun zq => absurd zq (nI_ge (by omega) (by omega))) (fun _ => ?_)
      refine jx_T.step (pc' := 11) (st' := [_]) rfl rfl ?_
      refine cl.get 4 (by decide) rfl (cw_c4 _) rfl ?_
      refine jx_T.step (pc' := 15) (st' := [_, _]) rfl rfl ?_
      refine cl.iald 5 (by decide) rfl (cw_c5 _) (rf_ix (by omega) (by decide)) ?_
      refine jx_T.step (pc' := 17) (st' := [_, _]) rfl rfl ?_
      rw [nI_clamp (by omega)]
      unfold rf_pos
      by_cases z : v < W.1 5 k
      · rw [if_pos z]
        refine cl.bc rfl (jx_br_le _ _) (fun zq => absurd zq (Int32.not_le.mpr z)) (fun _ => ?_)
        refine jx_T.step (pc' := 23) (ls' := [_, _, _]) (st' := []) rfl rfl ?_
        refine jx_T.step (pc' := 2) (st' := []) rfl rfl ?_
        rw [nI_1]
        exact ih (k + 1) (by omega)
      · rw [if_neg z]
        refine cl.bc rfl (jx_br_le _ _) (fun _ => ?_) (fun zq => absurd (Int32.not_lt.mp z) zq)
        refine jx_T.step (pc' := 27) (st' := [_]) rfl rfl ?_
        exact jx_T.ret rfl rfl
  show jx_T 27 0 [.ref 4, .int v, .retAddr 0] [] _ _ _
  refine jx_T.step (pc' := 1) (st' := [_]) rfl rfl ?_
  refine jx_T.step (pc' := 2) (ls' := [_, _, _]) (st' := []) rfl rfl ?_
  exact loop n 0 (by omega)
theorem kc_depth4 (W : cw) (g : Nat → Option jx_E) (nx s n : Nat) (hn : n ≤ 110) (en : W.2.2.1 4 1 = nI n) (k : Nat) (hk : k < 110) : jx_T 28 0 (jx_ent 28 [.ref 4, .int (nI k)]) [] (hc W g nx s) (some (.int (if k + 1 < n then W.1 5 k - W.1 5 (k + 1) else 0))) (hc W g nx s) := by
  show jx_T 28 0 [.ref 4, .int (nI k)] [] _ _ _
  refine jx_T.step (pc' := 1) (st' := [_]) rfl rfl ?_
  refine cl.br rfl (jx_br_lt _ _) (fun zq => absurd zq (nI_pos (by omega))) (fun _ => ?_)
  refine jx_T.step (pc' := 5) (st' := [_]) rfl rfl ?_
  refine jx_T.step (pc' := 6) (st' := [_, _]) rfl rfl ?_
  refine jx_T.step (pc' := 7) (st' := [_]) rfl rfl ?_
  refine jx_T.step (pc' := 8) (st' := [_, _]) rfl rfl ?_
  refine cl.get 4 (by decide) rfl (cw_c4 _) rfl ?_
  rw [en, nI_1]
  by_cases y : k + 1 < n
  · rw [if_pos y]
    refine cl.bc rfl (jx_br_ge _ _) (fun zq => absurd zq (nI_ge y (by omega))) (fun _ => ?_)
    refine jx_T.step (pc' := 15) (st' := [_]) rfl rfl ?_
    refine cl.get 4 (by decide) rfl (cw_c4 _) rfl ?_
    refine jx_T.step (pc' := 19) (st' := [_, _]) rfl rfl ?_
    refine cl.iald 5 (by decide) rfl (cw_c5 _) (rf_ix (by omega) (by decide)) ?_
    rw [nI_clamp (by omega)]
    refine jx_T.step (pc' := 21) (st' := [_, _]) rfl rfl ?_
    refine cl.get 4 (by decide) rfl (cw_c4 _) rfl ?_
    refine jx_T.step (pc' := 25) (st' := [_, _, _]) rfl rfl ?_
    refine jx_T.step (pc' := 26) (st' := [_, _, _, _]) rfl rfl ?_
    refine jx_T.step (pc' := 27) (st' := [_, _, _]) rfl rfl ?_
    rw [nI_1]
    refine cl.iald 5 (by decide) rfl (cw_c5 _) (rf_ix (by omega) (by decide)) ?_
    rw [nI_clamp (by omega)]
    refine jx_T.step (pc' := 29) (st' := [_]) rfl rfl ?_
    refine jx_T.step (pc' := 33) (st' := [_]) rfl rfl ?_
    exact jx_T.ret rfl rfl
  · rw [if_neg y]
    refine cl.bc rfl (jx_br_ge _ _) (fun _ => ?_) (fun zq => absurd (nI_le (by omega) (by omega)) zq)
    refine jx_T.step (pc' := 33) (st' := [_]) rfl rfl ?_
    exact jx_T.ret rfl rfl
/-- the world with one level more -/
def kw_add4 (W : cw) (n : Nat) (v : Int32) : cw := if rf_pos (W.1 5) v n 0 < n ∧ W.1 5 (rf_pos (W.1 5) v n 0) = v then W else cw_I (cw_A W 5 (upd (rf_sh (W.1 5) n (rf_pos (W.1 5) v n 0)) (rf_pos (W.1 5) v n 0) v)) 4 1 (nI (n + 1))
theorem kc_add4 (W : cw) (g : Nat → Option jx_E) (nx s n : Nat) (hn : n < 110) (en : W.2.2.1 4 1 = nI n) (v : Int32) : jx_T 26 0 (jx_ent 26 [.ref 4, .int v]) [] (hc W g nx s) none (hc (kw_add4 W n v) g nx s) := by
  have hp := rf_pos_le (W.1 5) v n 0
  rw [Nat.zero_add] at hp
  have cp := kc_place4 W g nx s n (by omega) en v
  unfold kw_add4
  generalize rf_pos (W.1 5) v n 0 = i at *
  have enA : ∀ f, (cw_A W 5 f).2.2.1 4 1 = nI n := fun _ => en
  have loop : ∀ d k, k = i + d → k ≤ n → jx_T 26 39 [.ref 4, .int v, .int (nI i), .int (nI k)] [] (hc (cw_A W 5 (rf_sh (W.1 5) n k)) g nx s) none (hc (cw_I (cw_A W 5 (upd (rf_sh (W.1 5) n i) i v)) 4 1 (nI (n + 1))) g nx s) := by
    intro d
    induction d with
    | zero =>
      intro k hk hkn
      obtain rfl : k = i := by omega
      have eAA : ∀ f, cw_A (cw_A W 5 (rf_sh (W.1 5) n k)) 5 f = cw_A W 5 f := by
        intro f
        refine Prod.ext ?_ rfl
        funext j
        show (if j = 5 then f else if j = 5 then _ else W.1 j) = if j = 5 then f else W.1 j
        by_cases q : j = 5
        · rw [if_pos q, if_pos q]
        · rw [if_neg q, if_neg q, if_neg q]
      refine jx_T.step (pc' := 40) (st' := [_]) rfl rfl ?_
      refine jx_T.step (pc' := 41) (st' := [_, _]) rfl rfl ?_
      refine cl.bc rfl (jx_br_le _ _) (fun _ => ?_) (fun zq => absurd (Int32.le_refl _) zq)
      refine jx_T.step (pc' := 65) (st' := [_]) rfl rfl ?_
      refine cl.get 4 (by decide) rfl (cw_c4 _) rfl ?_
      refine jx_T.step (pc' := 69) (st' := [_, _]) rfl rfl ?_
      refine jx_T.step (pc' := 70) (st' := [_, _, _]) rfl rfl ?_
      refine cl.iast 5 (by decide) rfl (cw_c5 _) (cw_s5 _) (rf_ix (by omega) (by decide)) ?_
      rw [nI_clamp (by omega), eAA]
      refine jx_T.step (pc' := 72) (st' := [_]) rfl rfl ?_
      refine jx_T.step (pc' := 73) (st' := [_, _]) rfl rfl ?_
      refine cl.get 4 (by decide) rfl (cw_c4 _) rfl ?_
      rw [enA]
      refine jx_T.step (pc' := 77) (st' := [_, _, _]) rfl rfl ?_
      refine jx_T.step (pc' := 78) (st' := [_, _]) rfl rfl ?_
      rw [nI_1]
      refine cl.put 4 (by decide) rfl (cw_c4 _) (Nat.le_of_ble_eq_true rfl) rfl (cw_f4_1 _ _) ?_
      exact jx_T.ret rfl rfl
    | succ d ih =>
      intro k hk hkn
      obtain ⟨j, rfl⟩ : ∃ j, k = j + 1 := ⟨k - 1, by omega⟩
      have eAA : ∀ f, cw_A (cw_A W 5 (rf_sh (W.1 5) n (j + 1))) 5 f = cw_A W 5 f := by
        intro f
        refine Prod.ext ?_ rfl
        funext j
        show (if j = 5 then f else if j = 5 then _ else W.1 j) = if j = 5 then f else W.1 j
        by_cases q : j = 5
        · rw [if_pos q, if_pos q]
        · rw [if_neg q, if_neg q, if_neg q]
      have eA : ∀ f : Nat → Int32, (cw_A W 5 f).1 5 = f := fun f => by simp [cw_A]
      refine jx_T.step (pc' := 40) (st' := [_]) rfl rfl ?_
      refine jx_T.step (pc' := 41) (st' := [_, _]) rfl rfl ?_
      refine cl.bc rfl (jx_br_le _ _) (fun zq => absurd zq (nI_ge (by omega) (by omega))) (fun _ => ?_)
      refine jx_T.step (pc' := 45) (st' := [_]) rfl rfl ?_
      refine cl.get 4 (by decide) rfl (cw_c4 _) rfl ?_
      refine jx_T.step (pc' := 49) (st' := [_, _]) rfl rfl ?_
      refine jx_T.step (pc' := 50) (st' := [_, _, _]) rfl rfl ?_
      refine cl.get 4 (by decide) rfl (cw_c4 _) rfl ?_
      refine jx_T.step (pc' := 54) (st' := [_, _, _, _]) rfl rfl ?_
      refine jx_T.step (pc' := 55) (st' := [_, _, _, _, _]) rfl rfl ?_
      refine jx_T.step (pc' := 56) (st' := [_, _, _, _]) rfl rfl ?_
      rw [nI_pred]
      refine cl.iald 5 (by decide) rfl (cw_c5 _) (rf_ix (by omega) (by decide)) ?_
      rw [nI_clamp (by omega)]
      refine cl.iast 5 (by decide) rfl (cw_c5 _) (cw_s5 _) (rf_ix (by omega) (by decide)) ?_
      rw [nI_clamp (by omega), eAA, eA, rf_sh_s _ _ _ (by omega)]
      refine jx_T.step (pc' := 61) (ls' := [_, _, _, _]) (st' := []) rfl rfl ?_
      refine jx_T.step (pc' := 39) (st' := []) rfl rfl ?_
      rw [show (nI (j + 1) : Int32) + -1 = nI j from pk_m1 _]
      exact ih j (by omega) (by omega)
  have t34 : jx_T 26 34 [.ref 4, .int v, .int (nI i), .retAddr 0] [] (hc W g nx s) none (hc (cw_I (cw_A W 5 (upd (rf_sh (W.1 5) n i) i v)) 4 1 (nI (n + 1))) g nx s) := by
    have e0 : cw_A W 5 (rf_sh (W.1 5) n n) = W := by
      rw [rf_sh_n]
      refine Prod.ext ?_ rfl
      funext j
      show (if j = 5 then W.1 5 else W.1 j) = W.1 j
      by_cases q : j = 5
      · rw [if_pos q, q]
      · rw [if_neg q]
    refine jx_T.step (pc' := 35) (st' := [_]) rfl rfl ?_
    refine cl.get 4 (by decide) rfl (cw_c4 _) rfl ?_
    rw [en]
    refine jx_T.step (pc' := 39) (ls' := [_, _, _, _]) (st' := []) rfl rfl ?_
    have := loop (n - i) n (by omega) (Nat.le_refl n)
    rw [e0] at this
    exact this
  show jx_T 26 0 [.ref 4, .int v, .retAddr 0, .retAddr 0] [] _ _ _
  refine jx_T.step (pc' := 1) (st' := [_]) rfl rfl ?_
  refine jx_T.step (pc' := 2) (st' := [_, _]) rfl rfl ?_
  refine cl.v1I (hc_fix 4 (by decide) (cw_c4 _)) rfl (by decide) rfl ⟨Nat.le_of_ble_eq_true rfl, rfl⟩ (Nat.le_of_ble_eq_true rfl) (cp) ?_
  refine jx_T.step (pc' := 6) (ls' := [_, _, _, _]) (st' := []) rfl rfl ?_
  refine jx_T.step (pc' := 7) (st' := [_]) rfl rfl ?_
  refine cl.get 4 (by decide) rfl (cw_c4 _) rfl ?_
  rw [en]
  refine jx_T.step (pc' := 12) (st' := [_, _]) rfl rfl ?_
  rw [rf_lit 110]
  refine cl.bc rfl (jx_br_ge _ _) (fun zq => absurd zq (nI_ge hn (by omega))) (fun _ => ?_)
  refine jx_T.step (pc' := 16) (st' := [_]) rfl rfl ?_
  refine jx_T.step (pc' := 17) (st' := [_, _]) rfl rfl ?_
  refine cl.get 4 (by decide) rfl (cw_c4 _) rfl ?_
  rw [en]
  by_cases y : i < n
  · refine cl.bc rfl (jx_br_ge _ _) (fun zq => absurd zq (nI_ge y (by omega))) (fun _ => ?_)
    refine jx_T.step (pc' := 24) (st' := [_]) rfl rfl ?_
    refine cl.get 4 (by decide) rfl (cw_c4 _) rfl ?_
    refine jx_T.step (pc' := 28) (st' := [_, _]) rfl rfl ?_
    refine cl.iald 5 (by decide) rfl (cw_c5 _) (rf_ix (by omega) (by decide)) ?_
    refine jx_T.step (pc' := 30) (st' := [_, _]) rfl rfl ?_
    rw [nI_clamp (by omega)]
    by_cases z : W.1 5 i = v
    · rw [if_pos ⟨y, z⟩]
      refine cl.bcn rfl (fun zq => absurd (z) zq) (fun _ => ?_)
      exact jx_T.ret rfl rfl
    · rw [if_neg (fun q => z q.2)]
      refine cl.bcn rfl (fun _ => ?_) (fun zq => absurd zq (z))
      exact t34
  · rw [if_neg (fun q => y q.1)]
    refine cl.bc rfl (jx_br_ge _ _) (fun _ => ?_) (fun zq => absurd (nI_le (by omega) (by omega)) zq)
    exact t34
theorem kc_has20 (W : cw) (g : Nat → Option jx_E) (nx s n : Nat) (hn : n ≤ 110) (en : W.2.2.1 20 1 = nI n) (k : Int32) : jx_T 29 0 (jx_ent 29 [.ref 20, .int k]) [] (hc W g nx s) (some (.int (rf_o (0 ≤ k.toInt ∧ k.toInt < n)))) (hc W g nx s) := by
  show jx_T 29 0 [.ref 20, .int k] [] _ _ _
  refine jx_T.step (pc' := 1) (st' := [_]) rfl rfl ?_
  by_cases z : k < 0
  · rw [rf_of (fun q => by have := (rf_lt0 k).mp z; omega)]
    refine cl.br rfl (jx_br_lt _ _) (fun _ => ?_) (fun zq => absurd (z) zq)
    refine jx_T.step (pc' := 17) (st' := [_]) rfl rfl ?_
    exact jx_T.ret rfl rfl
  · refine cl.br rfl (jx_br_lt _ _) (fun zq => absurd zq (z)) (fun _ => ?_)
    obtain ⟨j, hj, rfl⟩ := rf_nn z
    refine jx_T.step (pc' := 5) (st' := [_]) rfl rfl ?_
    refine jx_T.step (pc' := 6) (st' := [_, _]) rfl rfl ?_
    refine cl.get 20 (by decide) rfl (cw_c20 _) rfl ?_
    rw [en]
    by_cases y : j < n
    · rw [rf_ot (by rw [nI_toInt hj]; omega)]
      refine cl.bc rfl (jx_br_ge _ _) (fun zq => absurd zq (nI_ge y (by omega))) (fun _ => ?_)
      refine jx_T.step (pc' := 13) (st' := [_]) rfl rfl ?_
      refine jx_T.step (pc' := 17) (st' := [_]) rfl rfl ?_
      exact jx_T.ret rfl rfl
    · rw [rf_of (by rw [nI_toInt hj]; omega)]
      refine cl.bc rfl (jx_br_ge _ _) (fun _ => ?_) (fun zq => absurd (nI_le (by omega) hj) zq)
      refine jx_T.step (pc' := 17) (st' := [_]) rfl rfl ?_
      exact jx_T.ret rfl rfl
theorem kc_place20 (W : cw) (g : Nat → Option jx_E) (nx s n : Nat) (hn : n ≤ 110) (en : W.2.2.1 20 1 = nI n) (v : Int32) : jx_T 27 0 (jx_ent 27 [.ref 20, .int v]) [] (hc W g nx s) (some (.int (nI (rf_pos (W.1 21) v n 0)))) (hc W g nx s) := by
  have loop : ∀ d k, k + d = n → jx_T 27 2 [.ref 20, .int v, .int (nI k)] [] (hc W g nx s) (some (.int (nI (rf_pos (W.1 21) v d k)))) (hc W g nx s) := by
    intro d
    induction d with
    | zero =>
      intro k hk
      obtain rfl : k = n := by omega
      refine jx_T.step (pc' := 3) (st' := [_]) rfl rfl ?_
      refine jx_T.step (pc' := 4) (st' := [_, _]) rfl rfl ?_
      refine cl.get 20 (by decide) rfl (cw_c20 _) rfl ?_
      rw [en]
      refine cl.bc rfl (jx_br_ge _ _) (fun _ => ?_) (fun zq => absurd (Int32.le_refl _) zq)
      refine jx_T.step (pc' := 27) (st' := [_]) rfl rfl ?_
      exact jx_T.ret rfl rfl
    | succ d ih =>
      intro k hk
      refine jx_T.step (pc' := 3) (st' := [_]) rfl rfl ?_
      refine jx_T.step (pc' := 4) (st' := [_, _]) rfl rfl ?_
      refine cl.get 20 (by decide) rfl (cw_c20 _) rfl ?_
      rw [en]
      refine cl.bc rfl (jx_br_ge _ _) (fun zq => absurd zq (nI_ge (by omega) (by omega))) (fun _ => ?_)
      refine jx_T.step (pc' := 11) (st' := [_]) rfl rfl ?_
      refine cl.get 20 (by decide) rfl (cw_c20 _) rfl ?_
      refine jx_T.step (pc' := 15) (st' := [_, _]) rfl rfl ?_
      refine cl.iald 21 (by decide) rfl (cw_c21 _) (rf_ix (by omega) (by decide)) ?_
      refine jx_T.step (pc' := 17) (st' := [_, _]) rfl rfl ?_
      rw [nI_clamp (by omega)]
      unfold rf_pos
      by_cases z : v < W.1 21 k
      · rw [if_pos z]
        refine cl.bc rfl (jx_br_le _ _) (fun zq => absurd zq (Int32.not_le.mpr z)) (fun _ => ?_)
        refine jx_T.step (pc' := 23) (ls' := [_, _, _]) (st' := []) rfl rfl ?_
        refine jx_T.step (pc' := 2) (st' := []) rfl rfl ?_
        rw [nI_1]
        exact ih (k + 1) (by omega)
      · rw [if_neg z]
        refine cl.bc rfl (jx_br_le _ _) (fun _ => ?_) (fun zq => absurd (Int32.not_lt.mp z) zq)
        refine jx_T.step (pc' := 27) (st' := [_]) rfl rfl ?_
        exact jx_T.ret rfl rfl
  show jx_T 27 0 [.ref 20, .int v, .retAddr 0] [] _ _ _
  refine jx_T.step (pc' := 1) (st' := [_]) rfl rfl ?_
  refine jx_T.step (pc' := 2) (ls' := [_, _, _]) (st' := []) rfl rfl ?_
  exact loop n 0 (by omega)
theorem kc_depth20 (W : cw) (g : Nat → Option jx_E) (nx s n : Nat) (hn : n ≤ 110) (en : W.2.2.1 20 1 = nI n) (k : Nat) (hk : k < 110) : jx_T 28 0 (jx_ent 28 [.ref 20, .int (nI k)]) [] (hc W g nx s) (some (.int (if k + 1 < n then W.1 21 k - W.1 21 (k + 1) else 0))) (hc W g nx s) := by
  show jx_T 28 0 [.ref 20, .int (nI k)] [] _ _ _
  refine jx_T.step (pc' := 1) (st' := [_]) rfl rfl ?_
  refine cl.br rfl (jx_br_lt _ _) (fun zq => absurd zq (nI_pos (by omega))) (fun _ => ?_)
  refine jx_T.step (pc' := 5) (st' := [_]) rfl rfl ?_
  refine jx_T.step (pc' := 6) (st' := [_, _]) rfl rfl ?_
  refine jx_T.step (pc' := 7) (st' := [_]) rfl rfl ?_
  refine jx_T.step (pc' := 8) (st' := [_, _]) rfl rfl ?_
  refine cl.get 20 (by decide) rfl (cw_c20 _) rfl ?_
  rw [en, nI_1]
  by_cases y : k + 1 < n
  · rw [if_pos y]
    refine cl.bc rfl (jx_br_ge _ _) (fun zq => absurd zq (nI_ge y (by omega))) (fun _ => ?_)
    refine jx_T.step (pc' := 15) (st' := [_]) rfl rfl ?_
    refine cl.get 20 (by decide) rfl (cw_c20 _) rfl ?_
    refine jx_T.step (pc' := 19) (st' := [_, _]) rfl rfl ?_
    refine cl.iald 21 (by decide) rfl (cw_c21 _) (rf_ix (by omega) (by decide)) ?_
    rw [nI_clamp (by omega)]
    refine jx_T.step (pc' := 21) (st' := [_, _]) rfl rfl ?_
    refine cl.get 20 (by decide) rfl (cw_c20 _) rfl ?_
    refine jx_T.step (pc' := 25) (st' := [_, _, _]) rfl rfl ?_
    refine jx_T.step (pc' := 26) (st' := [_, _, _, _]) rfl rfl ?_
    refine jx_T.step (pc' := 27) (st' := [_, _, _]) rfl rfl ?_
    rw [nI_1]
    refine cl.iald 21 (by decide) rfl (cw_c21 _) (rf_ix (by omega) (by decide)) ?_
    rw [nI_clamp (by omega)]
    refine jx_T.step (pc' := 29) (st' := [_]) rfl rfl ?_
    refine jx_T.step (pc' := 33) (st' := [_]) rfl rfl ?_
    exact jx_T.ret rfl rfl
  · rw [if_neg y]
    refine cl.bc rfl (jx_br_ge _ _) (fun _ => ?_) (fun zq => absurd (nI_le (by omega) (by omega)) zq)
    refine jx_T.step (pc' := 33) (st' := [_]) rfl rfl ?_
    exact jx_T.ret rfl rfl
/-- the world with one level more -/
def kw_add20 (W : cw) (n : Nat) (v : Int32) : cw := if rf_pos (W.1 21) v n 0 < n ∧ W.1 21 (rf_pos (W.1 21) v n 0) = v then W else cw_I (cw_A W 21 (upd (rf_sh (W.1 21) n (rf_pos (W.1 21) v n 0)) (rf_pos (W.1 21) v n 0) v)) 20 1 (nI (n + 1))
theorem kc_add20 (W : cw) (g : Nat → Option jx_E) (nx s n : Nat) (hn : n < 110) (en : W.2.2.1 20 1 = nI n) (v : Int32) : jx_T 26 0 (jx_ent 26 [.ref 20, .int v]) [] (hc W g nx s) none (hc (kw_add20 W n v) g nx s) := by
  have hp := rf_pos_le (W.1 21) v n 0
  rw [Nat.zero_add] at hp
  have cp := kc_place20 W g nx s n (by omega) en v
  unfold kw_add20
  generalize rf_pos (W.1 21) v n 0 = i at *
  have enA : ∀ f, (cw_A W 21 f).2.2.1 20 1 = nI n := fun _ => en
  have loop : ∀ d k, k = i + d → k ≤ n → jx_T 26 39 [.ref 20, .int v, .int (nI i), .int (nI k)] [] (hc (cw_A W 21 (rf_sh (W.1 21) n k)) g nx s) none (hc (cw_I (cw_A W 21 (upd (rf_sh (W.1 21) n i) i v)) 20 1 (nI (n + 1))) g nx s) := by
    intro d
    induction d with
    | zero =>
      intro k hk hkn
      obtain rfl : k = i := by omega
      have eAA : ∀ f, cw_A (cw_A W 21 (rf_sh (W.1 21) n k)) 21 f = cw_A W 21 f := by
        intro f
        refine Prod.ext ?_ rfl
        funext j
        show (if j = 21 then f else if j = 21 then _ else W.1 j) = if j = 21 then f else W.1 j
        by_cases q : j = 21
        · rw [if_pos q, if_pos q]
        · rw [if_neg q, if_neg q, if_neg q]
      refine jx_T.step (pc' := 40) (st' := [_]) rfl rfl ?_
      refine jx_T.step (pc' := 41) (st' := [_, _]) rfl rfl ?_
      refine cl.bc rfl (jx_br_le _ _) (fun _ => ?_) (fun zq => absurd (Int32.le_refl _) zq)
      refine jx_T.step (pc' := 65) (st' := [_]) rfl rfl ?_
      refine cl.get 20 (by decide) rfl (cw_c20 _) rfl ?_
      refine jx_T.step (pc' := 69) (st' := [_, _]) rfl rfl ?_
      refine jx_T.step (pc' := 70) (st' := [_, _, _]) rfl rfl ?_
      refine cl.iast 21 (by decide) rfl (cw_c21 _) (cw_s21 _) (rf_ix (by omega) (by decide)) ?_
      rw [nI_clamp (by omega), eAA]
      refine jx_T.step (pc' := 72) (st' := [_]) rfl rfl ?_
      refine jx_T.step (pc' := 73) (st' := [_, _]) rfl rfl ?_
      refine cl.get 20 (by decide) rfl (cw_c20 _) rfl ?_
      rw [enA]
      refine jx_T.step (pc' := 77) (st' := [_, _, _]) rfl rfl ?_
      refine jx_T.step (pc' := 78) (st' := [_, _]) rfl rfl ?_
      rw [nI_1]
      refine cl.put 20 (by decide) rfl (cw_c20 _) (Nat.le_of_ble_eq_true rfl) rfl (cw_f20_1 _ _) ?_
      exact jx_T.ret rfl rfl
    | succ d ih =>
      intro k hk hkn
      obtain ⟨j, rfl⟩ : ∃ j, k = j + 1 := ⟨k - 1, by omega⟩
      have eAA : ∀ f, cw_A (cw_A W 21 (rf_sh (W.1 21) n (j + 1))) 21 f = cw_A W 21 f := by
        intro f
        refine Prod.ext ?_ rfl
        funext j
        show (if j = 21 then f else if j = 21 then _ else W.1 j) = if j = 21 then f else W.1 j
        by_cases q : j = 21
        · rw [if_pos q, if_pos q]
        · rw [if_neg q, if_neg q, if_neg q]
      have eA : ∀ f : Nat → Int32, (cw_A W 21 f).1 21 = f := fun f => by simp [cw_A]
      refine jx_T.step (pc' := 40) (st' := [_]) rfl rfl ?_
      refine jx_T.step (pc' := 41) (st' := [_, _]) rfl rfl ?_
      refine cl.bc rfl (jx_br_le _ _) (fun zq => absurd zq (nI_ge (by omega) (by omega))) (fun _ => ?_)
      refine jx_T.step (pc' := 45) (st' := [_]) rfl rfl ?_
      refine cl.get 20 (by decide) rfl (cw_c20 _) rfl ?_
      refine jx_T.step (pc' := 49) (st' := [_, _]) rfl rfl ?_
      refine jx_T.step (pc' := 50) (st' := [_, _, _]) rfl rfl ?_
      refine cl.get 20 (by decide) rfl (cw_c20 _) rfl ?_
      refine jx_T.step (pc' := 54) (st' := [_, _, _, _]) rfl rfl ?_
      refine jx_T.step (pc' := 55) (st' := [_, _, _, _, _]) rfl rfl ?_
      refine jx_T.step (pc' := 56) (st' := [_, _, _, _]) rfl rfl ?_
      rw [nI_pred]
      refine cl.iald 21 (by decide) rfl (cw_c21 _) (rf_ix (by omega) (by decide)) ?_
      rw [nI_clamp (by omega)]
      refine cl.iast 21 (by decide) rfl (cw_c21 _) (cw_s21 _) (rf_ix (by omega) (by decide)) ?_
      rw [nI_clamp (by omega), eAA, eA, rf_sh_s _ _ _ (by omega)]
      refine jx_T.step (pc' := 61) (ls' := [_, _, _, _]) (st' := []) rfl rfl ?_
      refine jx_T.step (pc' := 39) (st' := []) rfl rfl ?_
      rw [show (nI (j + 1) : Int32) + -1 = nI j from pk_m1 _]
      exact ih j (by omega) (by omega)
  have t34 : jx_T 26 34 [.ref 20, .int v, .int (nI i), .retAddr 0] [] (hc W g nx s) none (hc (cw_I (cw_A W 21 (upd (rf_sh (W.1 21) n i) i v)) 20 1 (nI (n + 1))) g nx s) := by
    have e0 : cw_A W 21 (rf_sh (W.1 21) n n) = W := by
      rw [rf_sh_n]
      refine Prod.ext ?_ rfl
      funext j
      show (if j = 21 then W.1 21 else W.1 j) = W.1 j
      by_cases q : j = 21
      · rw [if_pos q, q]
      · rw [if_neg q]
    refine jx_T.step (pc' := 35) (st' := [_]) rfl rfl ?_
    refine cl.get 20 (by decide) rfl (cw_c20 _) rfl ?_
    rw [en]
    refine jx_T.step (pc' := 39) (ls' := [_, _, _, _]) (st' := []) rfl rfl ?_
    have := loop (n - i) n (by omega) (Nat.le_refl n)
    rw [e0] at this
    exact this
  show jx_T 26 0 [.ref 20, .int v, .retAddr 0, .retAddr 0] [] _ _ _
  refine jx_T.step (pc' := 1) (st' := [_]) rfl rfl ?_
  refine jx_T.step (pc' := 2) (st' := [_, _]) rfl rfl ?_
  refine cl.v1I (hc_fix 20 (by decide) (cw_c20 _)) rfl (by decide) rfl ⟨Nat.le_of_ble_eq_true rfl, rfl⟩ (Nat.le_of_ble_eq_true rfl) (cp) ?_
  refine jx_T.step (pc' := 6) (ls' := [_, _, _, _]) (st' := []) rfl rfl ?_
  refine jx_T.step (pc' := 7) (st' := [_]) rfl rfl ?_
  refine cl.get 20 (by decide) rfl (cw_c20 _) rfl ?_
  rw [en]
  refine jx_T.step (pc' := 12) (st' := [_, _]) rfl rfl ?_
  rw [rf_lit 110]
  refine cl.bc rfl (jx_br_ge _ _) (fun zq => absurd zq (nI_ge hn (by omega))) (fun _ => ?_)
  refine jx_T.step (pc' := 16) (st' := [_]) rfl rfl ?_
  refine jx_T.step (pc' := 17) (st' := [_, _]) rfl rfl ?_
  refine cl.get 20 (by decide) rfl (cw_c20 _) rfl ?_
  rw [en]
  by_cases y : i < n
  · refine cl.bc rfl (jx_br_ge _ _) (fun zq => absurd zq (nI_ge y (by omega))) (fun _ => ?_)
    refine jx_T.step (pc' := 24) (st' := [_]) rfl rfl ?_
    refine cl.get 20 (by decide) rfl (cw_c20 _) rfl ?_
    refine jx_T.step (pc' := 28) (st' := [_, _]) rfl rfl ?_
    refine cl.iald 21 (by decide) rfl (cw_c21 _) (rf_ix (by omega) (by decide)) ?_
    refine jx_T.step (pc' := 30) (st' := [_, _]) rfl rfl ?_
    rw [nI_clamp (by omega)]
    by_cases z : W.1 21 i = v
    · rw [if_pos ⟨y, z⟩]
      refine cl.bcn rfl (fun zq => absurd (z) zq) (fun _ => ?_)
      exact jx_T.ret rfl rfl
    · rw [if_neg (fun q => z q.2)]
      refine cl.bcn rfl (fun _ => ?_) (fun zq => absurd zq (z))
      exact t34
  · rw [if_neg (fun q => y q.1)]
    refine cl.bc rfl (jx_br_ge _ _) (fun _ => ?_) (fun zq => absurd (nI_le (by omega) (by omega)) zq)
    exact t34
