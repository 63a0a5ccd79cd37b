/-! the works' network: steps of the walk -/
theorem dw_all {p : Nat → Bool} : ∀ l : List Nat, (∀ j, j ∈ l → j ∈ l.dropWhile p ∨ p j = true) ∧ (∀ j, j ∈ l.dropWhile p → j ∈ l) ∧ (l.dropWhile p).length ≤ l.length ∧ ∀ i rest, l.dropWhile p = i :: rest → p i = false
  | [] => ⟨fun j h => absurd h (by simp), fun j h => h, Nat.le_refl _, fun i rest h => absurd h (by simp)⟩
  | x :: l => by
    obtain ⟨h1, h2, h3, h4⟩ := dw_all (p := p) l
    by_cases q : p x = true
    · rw [List.dropWhile_cons_of_pos q]
      refine ⟨fun j hj => ?_, fun j hj => List.mem_cons_of_mem _ (h2 j hj), by rw [List.length_cons]; omega, h4⟩
      rcases List.mem_cons.mp hj with rfl | hj
      · exact Or.inr q
      · exact h1 j hj
    · rw [List.dropWhile_cons_of_neg q]
      refine ⟨fun j hj => Or.inl hj, fun j hj => hj, Nat.le_refl _, fun i rest h => ?_⟩
      obtain ⟨rfl, -⟩ := List.cons.inj h
      simpa using q
theorem op_t {A : List gA} {F : Nat → Option Int} {r : Nat → Int} {sn : Nat → Bool} {i : Nat} (h : op_b F (hv A) r sn i = true) : ¬ r i = 0 ∧ sn (pY A i) = false ∧ nq_t A F i := by
  unfold op_b at h
  rw [Bool.and_eq_true, Bool.and_eq_true] at h
  obtain ⟨h1, h2, h3⟩ := h
  refine ⟨by simpa using h1, by simpa [pY] using h2, ?_⟩
  cases hx : F ((hv A).getD i hd).1 with
  | none => rw [hx] at h3; exact absurd h3 (by simp)
  | some x => rw [hx] at h3; exact ⟨x, hx, of_decide_eq_true h3⟩
theorem op_f {A : List gA} {F : Nat → Option Int} {r : Nat → Int} {sn : Nat → Bool} {i : Nat} (h : op_b F (hv A) r sn i = false) : r i = 0 ∨ sn (pY A i) = true ∨ ¬ nq_t A F i := by
  refine Classical.byContradiction (fun q => ?_)
  have q1 : ¬ r i = 0 := fun z => q (Or.inl z)
  have q2 : ¬ sn (pY A i) = true := fun z => q (Or.inr (Or.inl z))
  obtain ⟨x, hx, hy⟩ : nq_t A F i := Classical.not_not.mp (fun z => q (Or.inr (Or.inr z)))
  unfold pT at hx
  unfold pY pC at hy
  unfold pY at q2
  unfold op_b at h
  rw [hx, decide_eq_false q1] at h
  dsimp only at h
  rw [Bool.not_eq_true] at q2
  rw [decide_eq_true hy, q2] at h
  exact absurd h (by decide)
section
variable {g : Nat → Option jx_E} {nx s : Nat} {W W1 : cw} {A : List gA} {N : Nat} {F : Nat → Option Int} {q : List Nat} {a : Nat} {sn : Nat → Bool} {tn : Nat → List Nat} {r : Nat → Int}
theorem kc_sB_open (E : nq_env W A N F) (J : nq_J W W1 A N F q a sn tn r) (hr : ∀ i, i < 2 * A.length → 0 ≤ r i) : jx_T 47 0 (jx_ent 47 [.ref 22, .int (nI a)]) [] (hc W1 g nx s) (some (.int (op_ans ((tn a).dropWhile (fun i => !(op_b F (hv A) r sn i)))))) (hc (cw_A W1 31 (upd (W1.1 31) a (op_ans ((tn a).dropWhile (fun i => !(op_b F (hv A) r sn i)))))) g nx s) ∧ ch (W.1 25) (op_ans ((tn a).dropWhile (fun i => !(op_b F (hv A) r sn i)))) ((tn a).dropWhile (fun i => !(op_b F (hv A) r sn i))) := by
  obtain ⟨ha, ⟨x, hx⟩, -⟩ := J.at E
  obtain ⟨wf, hA, K, hF, sm, f0, hN⟩ := E
  obtain ⟨j1, j2, j3, j4, j6, j7, j8, j9, j10⟩ := J
  have e25 : W1.1 25 = W.1 25 := j1.1 25 (by decide) (by decide) (by decide) (by decide)
  have e28 : W1.1 28 = W.1 28 := j1.1 28 (by decide) (by decide) (by decide) (by decide)
  obtain ⟨c1, c2, c3⟩ := j4 a ha
  have := kc_openLink (g := g) (nx := nx) (s := s) (W := W1) wf (j1.H K) (by rw [hv_len]; exact j2) (by rw [hv_len]; exact hr) (by rw [e28]; exact hF) sm j3 a ha hx (tn a) (by rw [hv_len]; exact c2) c3 (by rw [e25]; exact c1)
  rw [e25] at this
  exact this
theorem kc_sB_adv (E : nq_env W A N F) (J : nq_J W W1 A N F q a sn tn r) (hr : ∀ i, i < 2 * A.length → 0 ≤ r i) {i : Nat} {rest : List Nat} (h : (tn a).dropWhile (fun i => !(op_b F (hv A) r sn i)) = i :: rest) (sum : Int32) (n : Nat) (u7 : Value) : ∃ W2, nq_J W W2 A N F (i :: q) (pY A i) (fun v => if v = pY A i then true else sn v) (fun v => if v = a then i :: rest else tn v) r ∧ sn (pY A i) = false ∧ pY A i < N ∧ ∀ v h2, jx_T 44 168 [.ref 22, .int 0, .int 1, .int sum, .int (nI (q.length + 1)), .int (nI (pY A i)), .int (nI n), .int (nI i)] [] (hc W2 g nx s) v h2 → jx_T 44 99 [.ref 22, .int 0, .int 1, .int sum, .int (nI q.length), .int (nI a), .int (nI n), u7] [] (hc W1 g nx s) v h2 := by
  have co := kc_sB_open (g := g) (nx := nx) (s := s) E J hr
  have ln := J.len E
  obtain ⟨ha, ⟨x, hx⟩, sa⟩ := J.at E
  obtain ⟨wf, hA, K, hF, sm, f0, hN⟩ := E
  obtain ⟨j1, j2, j3, j4, j6, j7, j8, j9, j10⟩ := J
  have hN2 := wf.2.1
  obtain ⟨c1, c2, c3⟩ := j4 a ha
  rw [h] at co
  obtain ⟨co1, co2⟩ := co
  obtain ⟨d1, d2, d3, d4⟩ := dw_all (p := fun i => !(op_b F (hv A) r sn i)) (tn a)
  have hop : op_b F (hv A) r sn i = true := by simpa using d4 i rest h
  obtain ⟨o1, o2, o3⟩ := op_t hop
  have him := c3 i (d2 i (by rw [h]; exact List.mem_cons_self ..))
  obtain ⟨hi, hia⟩ := hg_mem.mp him
  rw [hv_len] at hi
  have hYN : pY A i < N := (wf.2.2 i (by rw [hv_len]; exact hi)).2.1
  have hri := hr i hi
  obtain ⟨Wa, ea⟩ : ∃ Wa, Wa = cw_A W1 31 (upd (W1.1 31) a (op_ans (i :: rest))) := ⟨_, rfl⟩
  obtain ⟨Wb, eb⟩ : ∃ Wb, Wb = cw_A Wa 32 (upd (Wa.1 32) q.length (nI i)) := ⟨_, rfl⟩
  obtain ⟨Wc, ec⟩ : ∃ Wc, Wc = cw_A Wb 30 (upd (Wb.1 30) (pY A i) 1) := ⟨_, rfl⟩
  have t26 : Wc.1 26 = W1.1 26 := by rw [ec, cw_An _ _ _ (by decide), eb, cw_An _ _ _ (by decide), ea, cw_An _ _ _ (by decide)]
  have t30 : Wc.1 30 = upd (W1.1 30) (pY A i) 1 := by rw [ec, cw_Ae, eb, cw_An _ _ _ (by decide), ea, cw_An _ _ _ (by decide)]
  have t31 : Wc.1 31 = upd (W1.1 31) a (nI i) := by rw [ec, cw_An _ _ _ (by decide), eb, cw_An _ _ _ (by decide), ea, cw_Ae]; rfl
  have t32 : Wc.1 32 = upd (W1.1 32) q.length (nI i) := by rw [ec, cw_An _ _ _ (by decide), eb, cw_Ae, ea, cw_An _ _ _ (by decide)]
  have t24 : Wb.1 24 = W.1 24 := by rw [eb, cw_An _ _ _ (by decide), ea, cw_An _ _ _ (by decide)]; exact j1.1 24 (by decide) (by decide) (by decide) (by decide)
  refine ⟨Wc, ⟨?_, fun j hj => by rw [t26]; exact j2 j hj, fun v hvN => ?_, fun v hvN => ?_, fun j hj => ?_, ⟨rfl, ?_⟩, ⟨?_, ?_⟩, fun j hj => ?_, ?_⟩, o2, hYN, fun v h2 t => ?_⟩
  · rw [ec, eb, ea]
    exact j1.tr (((km_f.A (by decide)).tr (km_f.A (by decide))).tr (km_f.A (by decide)))
  · rw [t30]
    unfold upd
    show _ = if (if v = pY A i then true else sn v) = true then (1 : Int32) else 0
    by_cases e : v = pY A i
    · rw [if_pos e, if_pos e, if_pos rfl]
    · rw [if_neg e, if_neg e]
      exact j3 v hvN
  · rw [t31]
    unfold upd
    show ch (W.1 25) (if v = a then nI i else W1.1 31 v) (if v = a then i :: rest else tn v) ∧ (if v = a then i :: rest else tn v).length ≤ 2 * A.length ∧ ∀ j, j ∈ (if v = a then i :: rest else tn v) → j ∈ hg_adj (hv A) v
    by_cases e : v = a
    · rw [if_pos e, if_pos e, e]
      rw [h] at d2 d3
      exact ⟨co2, Nat.le_trans d3 c2, fun j hj => c3 j (d2 j hj)⟩
    · rw [if_neg e, if_neg e]
      exact j4 v hvN
  · rw [t32, List.reverse_cons]
    rw [List.length_cons] at hj
    unfold upd
    by_cases e : j = q.length
    · rw [if_pos e, e]
      simp [List.getD_eq_getElem?_getD]
    · have hj2 : j < q.length := by omega
      rw [if_neg e, j6 j hj2]
      simp [List.getD_eq_getElem?_getD, List.getElem?_append, hj2]
  · rw [show pT A i = a from hia]
    exact j7
  · rw [List.map_cons]
    refine List.nodup_cons.mpr ⟨fun hm => ?_, j8.1⟩
    obtain ⟨k, k1, k2⟩ := List.mem_map.mp hm
    have := (j9 k k1).2.2.2
    rw [k2, o2] at this
    exact absurd this (by decide)
  · rw [List.map_cons]
    intro hm
    rcases List.mem_cons.mp hm with hm | hm
    · rw [← hm, j10] at o2
      exact absurd o2 (by decide)
    · exact j8.2 hm
  · rcases List.mem_cons.mp hj with rfl | hj
    · exact ⟨hi, by omega, o3, if_pos rfl⟩
    · obtain ⟨k1, k2, k3, k4⟩ := j9 j hj
      refine ⟨k1, k2, k3, ?_⟩
      show (if pY A j = pY A i then true else sn (pY A j)) = true
      split
      · rfl
      · exact k4
  · show (if 0 = pY A i then true else sn 0) = true
    split
    · rfl
    · exact j10
  · rw [← ea] at co1
    have co1 : jx_T 47 0 (jx_ent 47 [.ref 22, .int (nI a)]) [] (hc W1 g nx s) (some (.int (nI i))) (hc Wa g nx s) := co1
    have KW := K.2.2.1 i (by rw [hv_len]; exact hi)
    refine jx_T.step (pc' := 100) (st' := [_]) rfl rfl ?_
    refine jx_T.step (pc' := 102) (st' := [_, _]) rfl rfl ?_
    refine cl.v1I (hc_fix 22 (by decide) (cw_c22 _)) rfl (by decide) rfl ⟨Nat.le_of_ble_eq_true rfl, rfl⟩ (Nat.le_of_ble_eq_true rfl) (co1) ?_
    refine jx_T.step (pc' := 107) (ls' := [_, _, _, _, _, _, _, _]) (st' := []) rfl rfl ?_
    refine jx_T.step (pc' := 109) (st' := [_]) rfl rfl ?_
    refine cl.br rfl (jx_br_lt _ _) (fun zq => absurd zq (nI_pos (by omega))) (fun _ => ?_)
    refine jx_T.step (pc' := 113) (st' := [_]) rfl rfl ?_
    refine cl.get 22 (by decide) rfl (cw_c22 _) rfl ?_
    refine jx_T.step (pc' := 118) (st' := [_, _]) rfl rfl ?_
    refine jx_T.step (pc' := 120) (st' := [_, _, _]) rfl rfl ?_
    refine cl.iast 32 (by decide) rfl (cw_c32 _) (cw_s32 _) (rf_ix (by omega) (by decide)) ?_
    rw [nI_clamp (by omega), ← eb]
    refine jx_T.step (pc' := 124) (ls' := [_, _, _, _, _, _, _, _]) (st' := []) rfl rfl ?_
    refine jx_T.step (pc' := 125) (st' := [_]) rfl rfl ?_
    refine cl.get 22 (by decide) rfl (cw_c22 _) rfl ?_
    refine jx_T.step (pc' := 130) (st' := [_, _]) rfl rfl ?_
    refine cl.iald 24 (by decide) rfl (cw_c24 _) (rf_ix (by omega) (by decide)) ?_
    rw [nI_clamp (by omega), t24, KW.1]
    refine jx_T.step (pc' := 133) (ls' := [_, _, _, _, _, _, _, _]) (st' := []) rfl rfl ?_
    refine jx_T.step (pc' := 134) (st' := [_]) rfl rfl ?_
    refine cl.get 22 (by decide) rfl (cw_c22 _) rfl ?_
    refine jx_T.step (pc' := 139) (st' := [_, _]) rfl rfl ?_
    refine jx_T.step (pc' := 140) (st' := [_, _, _]) rfl rfl ?_
    refine cl.zast 30 (by decide) rfl (cw_c30 _) (cw_s30 _) (rf_ix (Nat.lt_of_lt_of_le hYN hN2) (by decide)) ?_
    rw [nI_clamp (by have : pY A i < N := hYN; show pY A i < 2 ^ 31; omega), show vp_nar .boolean 1 = 1 from by decide]
    rw [show cw_A Wb 30 (upd (Wb.1 30) ((hv A).getD i hd).2.1 1) = Wc from ec.symm]
    refine jx_T.step (pc' := 168) (st' := []) rfl rfl ?_
    rw [nI_1]
    exact t
theorem kc_sB_ret (E : nq_env W A N F) (J : nq_J W W1 A N F q a sn tn r) (hr : ∀ i, i < 2 * A.length → 0 ≤ r i) (hpair : fl_pair A.length (pT A) (pY A) (pC A)) (h : (tn a).dropWhile (fun i => !(op_b F (hv A) r sn i)) = []) {i : Nat} {l : List Nat} (hq : q = i :: l) (sum : Int32) (n : Nat) (u7 : Value) : ∃ W2, nq_J W W2 A N F l (pT A i) sn (fun v => if v = a then [] else tn v) r ∧ ∀ v h2, jx_T 44 168 [.ref 22, .int 0, .int 1, .int sum, .int (nI l.length), .int (nI (pT A i)), .int (nI n), .int (-1)] [] (hc W2 g nx s) v h2 → jx_T 44 99 [.ref 22, .int 0, .int 1, .int sum, .int (nI q.length), .int (nI a), .int (nI n), u7] [] (hc W1 g nx s) v h2 := by
  have co := kc_sB_open (g := g) (nx := nx) (s := s) E J hr
  have ln := J.len E
  obtain ⟨ha, ⟨x, hx⟩, sa⟩ := J.at E
  obtain ⟨wf, hA, K, hF, sm, f0, hN⟩ := E
  obtain ⟨j1, j2, j3, j4, j6, j7, j8, j9, j10⟩ := J
  have hN2 := wf.2.1
  rw [h] at co
  obtain ⟨co1, co2⟩ := co
  subst hq
  rw [List.length_cons] at ln
  obtain ⟨hi, -, -, -⟩ := j9 i (List.mem_cons_self ..)
  have hx1 : i ^^^ 1 < 2 * A.length ∧ pY A (i ^^^ 1) = pT A i := by
    obtain ⟨e, he, hie⟩ := pr_half hi
    have pe := hpair e he
    rcases hie with h | h
    · rw [h, fl_x0]
      exact ⟨by omega, pe.2.1⟩
    · rw [h, fl_x1]
      exact ⟨by omega, pe.1.symm⟩
  obtain ⟨Wa, ea⟩ : ∃ Wa, Wa = cw_A W1 31 (upd (W1.1 31) a (op_ans [])) := ⟨_, rfl⟩
  have t31 : Wa.1 31 = upd (W1.1 31) a (-1) := by rw [ea, cw_Ae]; rfl
  have tk : ∀ k, k ≠ 31 → Wa.1 k = W1.1 k := fun k hk => by rw [ea]; exact cw_An _ _ _ hk
  have t24 : Wa.1 24 = W.1 24 := (tk 24 (by decide)).trans (j1.1 24 (by decide) (by decide) (by decide) (by decide))
  have rv : ∀ j, j < l.length + 1 → (i :: l).reverse.getD j 0 = if j = l.length then i else l.reverse.getD j 0 := by
    intro j hj
    rw [List.reverse_cons]
    by_cases e : j = l.length
    · rw [if_pos e, e]
      simp [List.getD_eq_getElem?_getD]
    · have hj2 : j < l.length := by omega
      rw [if_neg e]
      simp [List.getD_eq_getElem?_getD, List.getElem?_append, hj2]
  have p0 : Wa.1 32 l.length = nI i := by
    rw [tk 32 (by decide), j6 l.length (by rw [List.length_cons]; omega), rv _ (by omega), if_pos rfl]
  refine ⟨Wa, ⟨?_, fun j hj => by rw [tk 26 (by decide)]; exact j2 j hj, fun v hvN => by rw [tk 30 (by decide)]; exact j3 v hvN, fun v hvN => ?_, fun j hj => ?_, j7.2, ⟨?_, ?_⟩, fun j hj => j9 j (List.mem_cons_of_mem _ hj), j10⟩, fun v h2 t => ?_⟩
  · rw [ea]
    exact j1.tr (km_f.A (by decide))
  · rw [t31]
    unfold upd
    show ch (W.1 25) (if v = a then -1 else W1.1 31 v) (if v = a then [] else tn v) ∧ (if v = a then [] else tn v).length ≤ 2 * A.length ∧ ∀ j, j ∈ (if v = a then [] else tn v) → j ∈ hg_adj (hv A) v
    by_cases e : v = a
    · rw [if_pos e, if_pos e]
      exact ⟨rfl, Nat.zero_le _, fun j hj => absurd hj (by simp)⟩
    · rw [if_neg e, if_neg e]
      exact j4 v hvN
  · rw [tk 32 (by decide), j6 j (by rw [List.length_cons]; omega), rv j (by omega), if_neg (by omega)]
  · exact (List.nodup_cons.mp j8.1).2
  · exact fun hm => j8.2 (List.mem_cons_of_mem _ hm)
  · rw [← ea] at co1
    have KW := K.2.2.1 (i ^^^ 1) (by rw [hv_len]; exact hx1.1)
    have e1 : W.1 24 (i ^^^ 1) = nI (pT A i) := by rw [KW.1]; exact congrArg nI hx1.2
    refine jx_T.step (pc' := 100) (st' := [_]) rfl rfl ?_
    refine jx_T.step (pc' := 102) (st' := [_, _]) rfl rfl ?_
    refine cl.v1I (hc_fix 22 (by decide) (cw_c22 _)) rfl (by decide) rfl ⟨Nat.le_of_ble_eq_true rfl, rfl⟩ (Nat.le_of_ble_eq_true rfl) (co1) ?_
    refine jx_T.step (pc' := 107) (ls' := [_, _, _, _, _, _, _, _]) (st' := []) rfl rfl ?_
    refine jx_T.step (pc' := 109) (st' := [_]) rfl rfl ?_
    refine cl.br rfl (jx_br_lt _ _) (fun _ => ?_) (fun zq => absurd (by decide) zq)
    refine jx_T.step (pc' := 146) (st' := [_]) rfl rfl ?_
    refine cl.br rfl (jx_br_le _ _) (fun zq => absurd zq (nI_ge (a := 0) (b := l.length + 1) (by omega) (by omega))) (fun _ => ?_)
    refine jx_T.step (pc' := 152) (ls' := [_, _, _, _, _, _, _, _]) (st' := []) rfl rfl ?_
    rw [show (nI (i :: l).length : Int32) + -1 = nI l.length from pk_m1 _]
    refine jx_T.step (pc' := 153) (st' := [_]) rfl rfl ?_
    refine cl.get 22 (by decide) rfl (cw_c22 _) rfl ?_
    refine jx_T.step (pc' := 157) (st' := [_, _]) rfl rfl ?_
    refine cl.get 22 (by decide) rfl (cw_c22 _) rfl ?_
    refine jx_T.step (pc' := 162) (st' := [_, _, _]) rfl rfl ?_
    refine cl.iald 32 (by decide) rfl (cw_c32 _) (rf_ix (by omega) (by decide)) ?_
    rw [nI_clamp (by omega), p0]
    refine jx_T.step (pc' := 164) (st' := [_, _, _]) rfl rfl ?_
    refine jx_T.step (pc' := 165) (st' := [_, _]) rfl rfl ?_
    rw [rf_lit 1, bt_xor]
    refine cl.iald 24 (by decide) rfl (cw_c24 _) (rf_ix (by omega) (by decide)) ?_
    rw [nI_clamp (by omega), t24, e1]
    refine jx_T.step (pc' := 168) (ls' := [_, _, _, _, _, _, _, _]) (st' := []) rfl rfl ?_
    exact t
theorem kc_sB_brk (E : nq_env W A N F) (J : nq_J W W1 A N F q a sn tn r) (hr : ∀ i, i < 2 * A.length → 0 ≤ r i) (h : (tn a).dropWhile (fun i => !(op_b F (hv A) r sn i)) = []) (hq : q = []) (sum : Int32) (n : Nat) (u7 : Value) : ∃ W2, (km_f W W2 ∧ nt_R W2 (2 * A.length) r) ∧ jx_T 44 99 [.ref 22, .int 0, .int 1, .int sum, .int (nI q.length), .int (nI a), .int (nI n), u7] [] (hc W1 g nx s) (some (.int sum)) (hc W2 g nx s) := by
  have co := kc_sB_open (g := g) (nx := nx) (s := s) E J hr
  obtain ⟨j1, j2, j3, j4, j6, j7, j8, j9, j10⟩ := J
  rw [h] at co
  obtain ⟨co1, co2⟩ := co
  subst hq
  refine ⟨cw_A W1 31 (upd (W1.1 31) a (op_ans [])), ⟨j1.tr (km_f.A (by decide)), fun j hj => by rw [cw_An _ _ _ (by decide)]; exact j2 j hj⟩, ?_⟩
  refine jx_T.step (pc' := 100) (st' := [_]) rfl rfl ?_
  refine jx_T.step (pc' := 102) (st' := [_, _]) rfl rfl ?_
  refine cl.v1I (hc_fix 22 (by decide) (cw_c22 _)) rfl (by decide) rfl ⟨Nat.le_of_ble_eq_true rfl, rfl⟩ (Nat.le_of_ble_eq_true rfl) (co1) ?_
  refine jx_T.step (pc' := 107) (ls' := [_, _, _, _, _, _, _, _]) (st' := []) rfl rfl ?_
  refine jx_T.step (pc' := 109) (st' := [_]) rfl rfl ?_
  refine cl.br rfl (jx_br_lt _ _) (fun _ => ?_) (fun zq => absurd (by decide) zq)
  refine jx_T.step (pc' := 146) (st' := [_]) rfl rfl ?_
  refine cl.br rfl (jx_br_le _ _) (fun _ => ?_) (fun zq => absurd (by decide) zq)
  refine jx_T.step (pc' := 175) (st' := [_]) rfl rfl ?_
  exact jx_T.ret rfl rfl
end
