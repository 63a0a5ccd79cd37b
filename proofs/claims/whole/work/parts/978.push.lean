/-! the works' network: a path cut; steps of the walk -/
theorem cw_AA (W : cw) (k : Nat) (f f2 : Nat → Int32) : cw_A (cw_A W k f) k f2 = cw_A W k f2 := by
  refine Prod.ext ?_ rfl
  funext j
  show (if j = k then f2 else if j = k then f else W.1 j) = if j = k then f2 else W.1 j
  by_cases q : j = k
  · rw [if_pos q, if_pos q]
  · rw [if_neg q, if_neg q, if_neg q]
theorem cw_Aid (W : cw) (k : Nat) : cw_A W k (W.1 k) = W := by
  refine Prod.ext ?_ rfl
  funext j
  show (if j = k then W.1 k else W.1 j) = W.1 j
  by_cases q : j = k
  · rw [if_pos q, q]
  · rw [if_neg q]
def ct_sn (sn : Nat → Bool) (A : List gA) (l : List Nat) (v : Nat) : Bool := sn v && !(decide (v ∈ l.map (pY A)))
section
variable {g : Nat → Option jx_E} {nx s : Nat}
theorem kc_cutPath (W : cw) (A : List gA) (N : Nat) (r : Nat → Int) (sn : Nat → Bool) (hA : A.length ≤ 5943) (hN : N ≤ 1324) (K : nt_H W (hv A) N) (R : nt_R W (2 * A.length) r) (l : List Nat) (h1 : 1 ≤ l.length) (hl : l.length ≤ 1324) (hi : ∀ i, i ∈ l → i < 2 * A.length ∧ pY A i < N) (hp : ∀ j, j < l.length → W.1 32 j = nI (l.getD j 0)) (hS : ∀ v, v < N → W.1 30 v = if sn v = true then 1 else 0) : ∃ k f, k < l.length ∧ jx_T 46 0 (jx_ent 46 [.ref 22, .int (nI l.length)]) [] (hc W g nx s) (some (.int (nI k))) (hc (cw_A W 30 f) g nx s) ∧ (∀ j, j < k → 0 < r (l.getD j 0)) ∧ ∀ v, v < N → f v = if ct_sn sn A (l.drop k) v = true then 1 else 0 := by
  have mem : ∀ j, j < l.length → l.getD j 0 ∈ l := fun j hj => by simp [List.getD_eq_getElem?_getD, hj]
  have un : ∀ (k : Nat), k < l.length → ∀ (d j : Nat) (f : Nat → Int32) (sn1 : Nat → Bool), j + d = l.length → (∀ v, v < N → f v = if sn1 v = true then 1 else 0) → ∃ f2, jx_T 46 31 [.ref 22, .int (nI l.length), .int (nI k), .int (nI j)] [] (hc (cw_A W 30 f) g nx s) (some (.int (nI k))) (hc (cw_A W 30 f2) g nx s) ∧ ∀ v, v < N → f2 v = if ct_sn sn1 A (l.drop j) v = true then 1 else 0 := by
    intro k hk d
    induction d with
    | zero =>
      intro j f sn1 hj hf
      obtain rfl : j = l.length := by omega
      refine ⟨f, ?_, fun v hv => ?_⟩
      · refine jx_T.step (pc' := 32) (st' := [_]) rfl rfl ?_
        refine jx_T.step (pc' := 33) (st' := [_, _]) rfl rfl ?_
        refine cl.bc rfl (jx_br_ge _ _) (fun _ => ?_) (fun zq => absurd (Int32.le_refl _) zq)
        refine jx_T.step (pc' := 60) (st' := [_]) rfl rfl ?_
        exact jx_T.ret rfl rfl
      · rw [hf v hv, List.drop_length]
        unfold ct_sn
        simp
    | succ d ih =>
      intro j f sn1 hj hf
      have hjl : j < l.length := by omega
      obtain ⟨m1, m2⟩ := hi _ (mem j hjl)
      have ek : l.drop j = l.getD j 0 :: l.drop (j + 1) := by
        rw [List.drop_eq_getElem_cons hjl]
        simp [List.getD_eq_getElem?_getD, hjl]
      have t24 : ∀ f, (cw_A W 30 f).1 24 (l.getD j 0) = nI (pY A (l.getD j 0)) := fun f => by
        rw [cw_An _ _ _ (by decide)]
        exact (K.2.2.1 _ (by rw [hv_len]; exact m1)).1
      obtain ⟨f2, t, h2⟩ := ih (j + 1) (upd f (pY A (l.getD j 0)) 0) (fun v => sn1 v && !(decide (v = pY A (l.getD j 0)))) (by omega) (fun v hv => by
        unfold upd
        by_cases e : v = pY A (l.getD j 0)
        · rw [if_pos e, if_neg (by simp [e])]
        · rw [if_neg e, hf v hv, decide_eq_false e, Bool.not_false, Bool.and_true])
      refine ⟨f2, ?_, fun v hv => ?_⟩
      · refine jx_T.step (pc' := 32) (st' := [_]) rfl rfl ?_
        refine jx_T.step (pc' := 33) (st' := [_, _]) rfl rfl ?_
        refine cl.bc rfl (jx_br_ge _ _) (fun zq => absurd zq (nI_ge (by omega) (by omega))) (fun _ => ?_)
        refine jx_T.step (pc' := 37) (st' := [_]) rfl rfl ?_
        refine cl.get 22 (by decide) rfl (cw_c22 _) rfl ?_
        refine jx_T.step (pc' := 41) (st' := [_, _]) rfl rfl ?_
        refine cl.get 22 (by decide) rfl (cw_c22 _) rfl ?_
        refine jx_T.step (pc' := 45) (st' := [_, _, _]) rfl rfl ?_
        refine cl.get 22 (by decide) rfl (cw_c22 _) rfl ?_
        refine jx_T.step (pc' := 49) (st' := [_, _, _, _]) rfl rfl ?_
        refine cl.iald 32 (by decide) rfl (cw_c32 _) (rf_ix (by omega) (by decide)) ?_
        rw [nI_clamp (by omega), cw_An _ _ _ (by decide), hp j hjl]
        refine cl.iald 24 (by decide) rfl (cw_c24 _) (rf_ix (by omega) (by decide)) ?_
        rw [nI_clamp (by omega), t24]
        refine jx_T.step (pc' := 52) (st' := [_, _, _]) rfl rfl ?_
        refine cl.zast 30 (by decide) rfl (cw_c30 _) (cw_s30 _) (rf_ix (by omega) (by decide)) ?_
        rw [nI_clamp (by omega), cw_Ae, cw_AA, show vp_nar .boolean 0 = 0 from by decide]
        refine jx_T.step (pc' := 56) (ls' := [_, _, _, _]) (st' := []) rfl rfl ?_
        refine jx_T.step (pc' := 31) (st' := []) rfl rfl ?_
        rw [nI_1]
        exact t
      · rw [h2 v hv, ek]
        unfold ct_sn
        rw [List.map_cons]
        generalize pY A (l.getD j 0) = b
        generalize (l.drop (j + 1)).map (pY A) = M
        have eb : (sn1 v && !(decide (v = b)) && !(decide (v ∈ M))) = (sn1 v && !(decide (v ∈ b :: M))) := by
          by_cases e : v = b
          · rw [decide_eq_true e, decide_eq_true (show v ∈ b :: M by rw [e]; exact List.mem_cons_self ..)]
            simp
          · by_cases e2 : v ∈ M
            · rw [decide_eq_true e2, decide_eq_true (List.mem_cons_of_mem _ e2)]
              simp
            · rw [decide_eq_false e, decide_eq_false e2, decide_eq_false (fun h => (List.mem_cons.mp h).elim e e2)]
              simp
        rw [eb]
  have kp : ∀ d k, k + d = l.length - 1 → (∀ j, j < k → 0 < r (l.getD j 0)) → ∃ k2 f, k2 < l.length ∧ jx_T 46 2 [.ref 22, .int (nI l.length), .int (nI k), .retAddr 0] [] (hc W g nx s) (some (.int (nI k2))) (hc (cw_A W 30 f) g nx s) ∧ (∀ j, j < k2 → 0 < r (l.getD j 0)) ∧ ∀ v, v < N → f v = if ct_sn sn A (l.drop k2) v = true then 1 else 0 := by
    intro d
    induction d with
    | zero =>
      intro k hk hj
      obtain ⟨f, t, hf⟩ := un k (by omega) (l.length - k) k (W.1 30) sn (by omega) hS
      rw [cw_Aid] at t
      refine ⟨k, f, by omega, ?_, hj, hf⟩
      refine jx_T.step (pc' := 3) (st' := [_]) rfl rfl ?_
      refine jx_T.step (pc' := 4) (st' := [_, _]) rfl rfl ?_
      refine jx_T.step (pc' := 5) (st' := [_, _, _]) rfl rfl ?_
      refine jx_T.step (pc' := 6) (st' := [_, _]) rfl rfl ?_
      rw [rf_lit 1, rf_nsub (by omega)]
      refine cl.bc rfl (jx_br_ge _ _) (fun _ => ?_) (fun zq => absurd (nI_le (by omega) (by omega)) zq)
      refine jx_T.step (pc' := 30) (st' := [_]) rfl rfl ?_
      refine jx_T.step (pc' := 31) (ls' := [_, _, _, _]) (st' := []) rfl rfl ?_
      exact t
    | succ d ih =>
      intro k hk hj
      obtain ⟨m1, m2⟩ := hi _ (mem k (by omega))
      have Rk := R _ m1
      by_cases z : 0 < r (l.getD k 0)
      · obtain ⟨k2, f, a1, a2, a3⟩ := ih (k + 1) (by omega) (fun j hj2 => by
          by_cases e : j = k
          · rw [e]
            exact z
          · exact hj j (by omega))
        refine ⟨k2, f, a1, ?_, a3⟩
        refine jx_T.step (pc' := 3) (st' := [_]) rfl rfl ?_
        refine jx_T.step (pc' := 4) (st' := [_, _]) rfl rfl ?_
        refine jx_T.step (pc' := 5) (st' := [_, _, _]) rfl rfl ?_
        refine jx_T.step (pc' := 6) (st' := [_, _]) rfl rfl ?_
        rw [rf_lit 1, rf_nsub (by omega)]
        refine cl.bc rfl (jx_br_ge _ _) (fun zq => absurd zq (nI_ge (by omega) (by omega))) (fun _ => ?_)
        refine jx_T.step (pc' := 10) (st' := [_]) rfl rfl ?_
        refine cl.get 22 (by decide) rfl (cw_c22 _) rfl ?_
        refine jx_T.step (pc' := 14) (st' := [_, _]) rfl rfl ?_
        refine cl.get 22 (by decide) rfl (cw_c22 _) rfl ?_
        refine jx_T.step (pc' := 18) (st' := [_, _, _]) rfl rfl ?_
        refine cl.iald 32 (by decide) rfl (cw_c32 _) (rf_ix (by omega) (by decide)) ?_
        rw [nI_clamp (by omega), hp k (by omega)]
        refine cl.iald 26 (by decide) rfl (cw_c26 _) (rf_ix (by omega) (by decide)) ?_
        rw [nI_clamp (by omega)]
        refine cl.br rfl (jx_br_le _ _) (fun zq => absurd zq (fun q => by have := Int32.le_iff_toInt_le.mp q; rw [Rk, show (0 : Int32).toInt = 0 from by decide] at this; omega)) (fun _ => ?_)
        refine jx_T.step (pc' := 26) (ls' := [_, _, _, _]) (st' := []) rfl rfl ?_
        refine jx_T.step (pc' := 2) (st' := []) rfl rfl ?_
        rw [nI_1]
        exact a2
      · obtain ⟨f, t, hf⟩ := un k (by omega) (l.length - k) k (W.1 30) sn (by omega) hS
        rw [cw_Aid] at t
        refine ⟨k, f, by omega, ?_, hj, hf⟩
        refine jx_T.step (pc' := 3) (st' := [_]) rfl rfl ?_
        refine jx_T.step (pc' := 4) (st' := [_, _]) rfl rfl ?_
        refine jx_T.step (pc' := 5) (st' := [_, _, _]) rfl rfl ?_
        refine jx_T.step (pc' := 6) (st' := [_, _]) rfl rfl ?_
        rw [rf_lit 1, rf_nsub (by omega)]
        refine cl.bc rfl (jx_br_ge _ _) (fun zq => absurd zq (nI_ge (by omega) (by omega))) (fun _ => ?_)
        refine jx_T.step (pc' := 10) (st' := [_]) rfl rfl ?_
        refine cl.get 22 (by decide) rfl (cw_c22 _) rfl ?_
        refine jx_T.step (pc' := 14) (st' := [_, _]) rfl rfl ?_
        refine cl.get 22 (by decide) rfl (cw_c22 _) rfl ?_
        refine jx_T.step (pc' := 18) (st' := [_, _, _]) rfl rfl ?_
        refine cl.iald 32 (by decide) rfl (cw_c32 _) (rf_ix (by omega) (by decide)) ?_
        rw [nI_clamp (by omega), hp k (by omega)]
        refine cl.iald 26 (by decide) rfl (cw_c26 _) (rf_ix (by omega) (by decide)) ?_
        rw [nI_clamp (by omega)]
        refine cl.br rfl (jx_br_le _ _) (fun _ => ?_) (fun zq => absurd (Int32.le_iff_toInt_le.mpr (by rw [Rk, show (0 : Int32).toInt = 0 from by decide]; omega)) zq)
        refine jx_T.step (pc' := 30) (st' := [_]) rfl rfl ?_
        refine jx_T.step (pc' := 31) (ls' := [_, _, _, _]) (st' := []) rfl rfl ?_
        exact t
  obtain ⟨k, f, a1, a2, a3⟩ := kp (l.length - 1) 0 (by omega) (fun j hj => absurd hj (by omega))
  refine ⟨k, f, a1, ?_, a3⟩
  show jx_T 46 0 [.ref 22, .int (nI l.length), .retAddr 0, .retAddr 0] [] _ _ _
  refine jx_T.step (pc' := 1) (st' := [_]) rfl rfl ?_
  refine jx_T.step (pc' := 2) (ls' := [_, _, _, _]) (st' := []) rfl rfl ?_
  exact a2
end
/-- rooms, seen, turn, path alone -/
def km_f (W W2 : cw) : Prop := (∀ k, k ≠ 26 → k ≠ 30 → k ≠ 31 → k ≠ 32 → W2.1 k = W.1 k) ∧ W2.2 = W.2
theorem km_f.rf {W : cw} : km_f W W := ⟨fun _ _ _ _ _ => rfl, rfl⟩
theorem km_f.tr {W W2 W3 : cw} (a : km_f W W2) (b : km_f W2 W3) : km_f W W3 := ⟨fun k h1 h2 h3 h4 => (b.1 k h1 h2 h3 h4).trans (a.1 k h1 h2 h3 h4), b.2.trans a.2⟩
theorem km_f.A {W : cw} {k : Nat} {f : Nat → Int32} (h : k = 26 ∨ k = 30 ∨ k = 31 ∨ k = 32) : km_f W (cw_A W k f) := ⟨fun j h1 h2 h3 h4 => cw_An _ _ _ (by omega), rfl⟩
theorem km_f.N {W W2 : cw} (a : km_f W W2) : kn_f W W2 := ⟨fun k h => a.1 k (by omega) (by omega) (by omega) (by omega), by rw [a.2], fun k y _ => by rw [a.2], by rw [a.2]⟩
theorem km_f.H {W W2 : cw} (a : km_f W W2) {H : List hA} {N : Nat} (K : nt_H W H N) : nt_H W2 H N := ⟨by rw [a.2]; exact K.1, by rw [a.2]; exact K.2.1, fun i hi => by rw [a.1 24 (by decide) (by decide) (by decide) (by decide), a.1 27 (by decide) (by decide) (by decide) (by decide)]; exact K.2.2.1 i hi, fun x hx => by rw [a.1 25 (by decide) (by decide) (by decide) (by decide), a.1 23 (by decide) (by decide) (by decide) (by decide)]; exact K.2.2.2 x hx⟩
/-- what stays while the walk goes: arcs, nodes, labels -/
def nq_env (W : cw) (A : List gA) (N : Nat) (F : Nat → Option Int) : Prop := nq_wf (hv A) N ∧ A.length ≤ 5943 ∧ nt_H W (hv A) N ∧ (∀ v, v < N → W.1 28 v = np_rep (F v)) ∧ (∀ v x, F v = some x → -2 ^ 24 ≤ x ∧ x ≤ 2 ^ 24) ∧ F 0 = some 0 ∧ 2 ≤ N
def nq_t (A : List gA) (F : Nat → Option Int) (i : Nat) : Prop := ∃ x, F (pT A i) = some x ∧ F (pY A i) = some (x + pC A i)
/-- the walk: path (last first), node, seen, turns, rooms -/
def nq_J (W W1 : cw) (A : List gA) (N : Nat) (F : Nat → Option Int) (q : List Nat) (a : Nat) (sn : Nat → Bool) (tn : Nat → List Nat) (r : Nat → Int) : Prop := km_f W W1 ∧ nt_R W1 (2 * A.length) r ∧ (∀ v, v < N → W1.1 30 v = if sn v = true then 1 else 0) ∧ (∀ v, v < N → ch (W.1 25) (W1.1 31 v) (tn v) ∧ (tn v).length ≤ 2 * A.length ∧ ∀ i, i ∈ tn v → i ∈ hg_adj (hv A) v) ∧ (∀ j, j < q.length → W1.1 32 j = nI (q.reverse.getD j 0)) ∧ fl_way (pT A) (pY A) 0 a q ∧ ((q.map (pY A)).Nodup ∧ 0 ∉ q.map (pY A)) ∧ (∀ i, i ∈ q → i < 2 * A.length ∧ 0 < r i ∧ nq_t A F i ∧ sn (pY A i) = true) ∧ sn 0 = true
section
variable {W W1 : cw} {A : List gA} {N : Nat} {F : Nat → Option Int} {q : List Nat} {a : Nat} {sn : Nat → Bool} {tn : Nat → List Nat} {r : Nat → Int}
theorem nq_J.at (E : nq_env W A N F) (J : nq_J W W1 A N F q a sn tn r) : a < N ∧ (∃ x, F a = some x) ∧ sn a = true := by
  obtain ⟨wf, hA, K, hF, sm, f0, hN⟩ := E
  obtain ⟨j1, j2, j3, j4, j6, j7, j8, j9, j10⟩ := J
  cases q with
  | nil =>
    obtain rfl : a = 0 := j7
    exact ⟨by omega, ⟨0, f0⟩, j10⟩
  | cons i l =>
    obtain ⟨e, -⟩ := j7
    obtain ⟨h1, h2, ⟨x, h3, h4⟩, h5⟩ := j9 i (List.mem_cons_self ..)
    rw [← e]
    exact ⟨(wf.2.2 i (by rw [hv_len]; exact h1)).2.1, ⟨_, h4⟩, h5⟩
theorem nq_J.len (E : nq_env W A N F) (J : nq_J W W1 A N F q a sn tn r) : q.length + 1 ≤ N := by
  obtain ⟨wf, hA, K, hF, sm, f0, hN⟩ := E
  obtain ⟨j1, j2, j3, j4, j6, j7, j8, j9, j10⟩ := J
  have := sp_len N (0 :: q.map (pY A)) (List.nodup_cons.mpr ⟨j8.2, j8.1⟩) (fun v hv => by
    rcases List.mem_cons.mp hv with h | h
    · omega
    · obtain ⟨i, h1, h2⟩ := List.mem_map.mp h
      rw [← h2]
      exact (wf.2.2 i (by rw [hv_len]; exact (j9 i h1).1)).2.1)
  rw [List.length_cons, List.length_map] at this
  exact this
end
