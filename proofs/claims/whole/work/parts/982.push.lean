/-! the works' network: pushOnce, pushAll -/
theorem km_f.E {W W1 : cw} {A : List gA} {N : Nat} {F : Nat → Option Int} (k : km_f W W1) (E : nq_env W A N F) : nq_env W1 A N F := ⟨E.1, E.2.1, k.H E.2.2.1, by rw [k.1 28 (by decide) (by decide) (by decide) (by decide)]; exact E.2.2.2.1, E.2.2.2.2⟩
theorem sn_c_0 : ∀ n, sn_c (fun _ => false) n = 0
  | 0 => rfl
  | n + 1 => by
    unfold sn_c
    rw [sn_c_0 n]
    rfl
section
variable {g : Nat → Option jx_E} {nx s : Nat} {A : List gA} {N : Nat} {F : Nat → Option Int} {P : Nat → Int} {r : Nat → Int} {D c : Int}
theorem kc_pushOnce (W : cw) (E : nq_env W A N F) (E2 : nq_env2 A F P) (R : nt_R W (2 * A.length) r) (fl : nq_FL A P r D c) (h0 : 0 ≤ D) : ∃ W2 r2 D2 v, jx_T 44 0 (jx_ent 44 [.ref 22, .int 0, .int 1]) [] (hc W g nx s) (some (.int v)) (hc W2 g nx s) ∧ (km_f W W2 ∧ nt_R W2 (2 * A.length) r2) ∧ nq_FL A P r2 D2 (c + (D2 - D) * (P 1 - P 0)) ∧ v.toInt = D2 - D ∧ D ≤ D2 ∧ (D2 = D → nq_cut A F r2 ∧ r2 = r) := by
  have hN2 := E.1.2.1
  have hN1 := E.2.2.2.2.2.2
  have hl := hv_len A
  have K := E.2.2.1
  have loop : ∀ d k (W1 : cw), k + d = N → km_f W W1 → W1.1 26 = W.1 26 → (∀ v, v < k → W1.1 31 v = W.1 23 v ∧ W1.1 30 v = 0) → ∃ W2 r2 D2 v, jx_T 44 2 [.ref 22, .int 0, .int 1, .int (nI k), .retAddr 0, .retAddr 0, .retAddr 0, .retAddr 0] [] (hc W1 g nx s) (some (.int v)) (hc W2 g nx s) ∧ (km_f W W2 ∧ nt_R W2 (2 * A.length) r2) ∧ nq_FL A P r2 D2 (c + (D2 - D) * (P 1 - P 0)) ∧ v.toInt = D2 - D ∧ D ≤ D2 ∧ (D2 = D → nq_cut A F r2 ∧ r2 = r) := by
    intro d
    induction d with
    | zero =>
      intro k W1 hk km e26 hz
      obtain rfl : k = N := by omega
      obtain ⟨W2, e2⟩ : ∃ W2, W2 = cw_A W1 30 (upd (W1.1 30) 0 1) := ⟨_, rfl⟩
      have k2 : km_f W W2 := by rw [e2]; exact km.tr (km_f.A (by decide))
      have J : nq_J W W2 A k F [] 0 (fun v => if v = 0 then true else false) (hg_adj (hv A)) r := by
        refine ⟨k2, fun i hi => ?_, fun v hvN => ?_, fun v hvN => ⟨?_, ?_, fun i hi => hi⟩, fun j hj => absurd hj (by simp), rfl, ⟨List.nodup_nil, by simp⟩, fun i hi => absurd hi (by simp), rfl⟩
        · rw [e2, cw_An _ _ _ (by decide), e26]
          exact R i hi
        · rw [e2, cw_Ae]
          unfold upd
          show _ = if (if v = 0 then true else false) = true then (1 : Int32) else 0
          by_cases e : v = 0
          · rw [if_pos e, if_pos e, if_pos rfl]
          · rw [if_neg e, if_neg e, if_neg (by decide)]
            exact (hz v hvN).2
        · rw [e2, cw_An _ _ _ (by decide), (hz v hvN).1]
          exact K.2.2.2 v hvN
        · have := hg_len (hv A) v
          omega
      have C : nq_C A k F [] 0 0 (fun v => if v = 0 then true else false) (hg_adj (hv A)) r := by
        refine ⟨fun v _ _ => rfl, fun v _ _ i hi => Or.inl hi, fun v _ h1 => ?_, fun h1 => absurd h1 (by decide), fun v h1 => ?_, ?_⟩
        · have h1 : (if v = 0 then true else false) = true := h1
          by_cases e : v = 0
          · exact Or.inr (Or.inl e)
          · rw [if_neg e] at h1
            exact absurd h1 (by decide)
        · have h1 : (if v = 0 then true else false) = true := h1
          by_cases e : v = 0
          · rw [e]
            exact ⟨0, E.2.2.2.2.2.1⟩
          · rw [if_neg e] at h1
            exact absurd h1 (by decide)
        · have := sn_c_set (fun _ => false) 0 rfl k
          rw [if_pos (by omega), sn_c_0] at this
          have t2 : sn_c (fun v => if v = 0 then true else false) k = 0 + 1 := this
          rw [t2]
          rfl
      obtain ⟨W3, r3, D3, v, t, x⟩ := kc_ph1 (g := g) (nx := nx) (s := s) E E2 r D c fl h0 1000000 0 W2 [] 0 _ _ (.retAddr 0) (by omega) J C
      refine ⟨W3, r3, D3, v, ?_, x⟩
      refine jx_T.step (pc' := 3) (st' := [_]) rfl rfl ?_
      refine jx_T.step (pc' := 4) (st' := [_, _]) rfl rfl ?_
      refine cl.get 22 (by decide) rfl (cw_c22 _) rfl ?_
      rw [(km.H K).1]
      refine cl.bc rfl (jx_br_ge _ _) (fun _ => ?_) (fun zq => absurd (Int32.le_refl _) zq)
      refine jx_T.step (pc' := 36) (st' := [_]) rfl rfl ?_
      refine jx_T.step (pc' := 37) (ls' := [_, _, _, _, _, _, _, _]) (st' := []) rfl rfl ?_
      refine jx_T.step (pc' := 38) (st' := [_]) rfl rfl ?_
      refine jx_T.step (pc' := 40) (ls' := [_, _, _, _, _, _, _, _]) (st' := []) rfl rfl ?_
      refine jx_T.step (pc' := 41) (st' := [_]) rfl rfl ?_
      refine jx_T.step (pc' := 43) (ls' := [_, _, _, _, _, _, _, _]) (st' := []) rfl rfl ?_
      refine jx_T.step (pc' := 44) (st' := [_]) rfl rfl ?_
      refine cl.get 22 (by decide) rfl (cw_c22 _) rfl ?_
      refine jx_T.step (pc' := 48) (st' := [_, _]) rfl rfl ?_
      refine jx_T.step (pc' := 49) (st' := [_, _, _]) rfl rfl ?_
      refine cl.zast 30 (by decide) rfl (cw_c30 _) (cw_s30 _) (rf_ix (n := 0) (by decide) (by decide)) ?_
      rw [show ((0 : Int32)).toNatClampNeg = 0 from rfl, show vp_nar .boolean 1 = 1 from by decide, ← e2]
      refine jx_T.step (pc' := 51) (st' := [_]) rfl rfl ?_
      refine jx_T.step (pc' := 53) (ls' := [_, _, _, _, _, _, _, _]) (st' := []) rfl rfl ?_
      exact t
    | succ d ih =>
      intro k W1 hk km e26 hz
      obtain ⟨W2, e2⟩ : ∃ W2, W2 = cw_A (cw_A W1 31 (upd (W1.1 31) k (W.1 23 k))) 30 (upd (W1.1 30) k 0) := ⟨_, rfl⟩
      have k2 : km_f W1 W2 := by rw [e2]; exact (km_f.A (by decide)).tr (km_f.A (by decide))
      obtain ⟨W3, r3, D3, v, t, x⟩ := ih (k + 1) W2 (by omega) (km.tr k2) (by rw [e2, cw_An _ _ _ (by decide), cw_An _ _ _ (by decide)]; exact e26) (fun v hv => by
        rw [e2, cw_Ae, cw_An _ _ _ (by decide), cw_Ae]
        unfold upd
        by_cases e : v = k
        · rw [if_pos e, if_pos e, e]
          exact ⟨rfl, rfl⟩
        · rw [if_neg e, if_neg e]
          exact hz v (by omega))
      refine ⟨W3, r3, D3, v, ?_, x⟩
      refine jx_T.step (pc' := 3) (st' := [_]) rfl rfl ?_
      refine jx_T.step (pc' := 4) (st' := [_, _]) rfl rfl ?_
      refine cl.get 22 (by decide) rfl (cw_c22 _) rfl ?_
      rw [(km.H K).1]
      refine cl.bc rfl (jx_br_ge _ _) (fun zq => absurd zq (nI_ge (by omega) (by omega))) (fun _ => ?_)
      refine jx_T.step (pc' := 11) (st' := [_]) rfl rfl ?_
      refine cl.get 22 (by decide) rfl (cw_c22 _) rfl ?_
      refine jx_T.step (pc' := 15) (st' := [_, _]) rfl rfl ?_
      refine jx_T.step (pc' := 16) (st' := [_, _, _]) rfl rfl ?_
      refine cl.get 22 (by decide) rfl (cw_c22 _) rfl ?_
      refine jx_T.step (pc' := 20) (st' := [_, _, _, _]) rfl rfl ?_
      refine cl.iald 23 (by decide) rfl (cw_c23 _) (rf_ix (by omega) (by decide)) ?_
      rw [nI_clamp (by omega), km.1 23 (by decide) (by decide) (by decide) (by decide)]
      refine cl.iast 31 (by decide) rfl (cw_c31 _) (cw_s31 _) (rf_ix (by omega) (by decide)) ?_
      rw [nI_clamp (by omega)]
      refine jx_T.step (pc' := 23) (st' := [_]) rfl rfl ?_
      refine cl.get 22 (by decide) rfl (cw_c22 _) rfl ?_
      refine jx_T.step (pc' := 27) (st' := [_, _]) rfl rfl ?_
      refine jx_T.step (pc' := 28) (st' := [_, _, _]) rfl rfl ?_
      refine cl.zast 30 (by decide) rfl (cw_c30 _) (cw_s30 _) (rf_ix (by omega) (by decide)) ?_
      rw [nI_clamp (by omega), cw_An _ _ _ (by decide), show vp_nar .boolean 0 = 0 from by decide, ← e2]
      refine jx_T.step (pc' := 32) (ls' := [_, _, _, _, _, _, _, _]) (st' := []) rfl rfl ?_
      refine jx_T.step (pc' := 2) (st' := []) rfl rfl ?_
      rw [nI_1]
      exact t
  obtain ⟨W2, r2, D2, v, t, x⟩ := loop N 0 W (by omega) km_f.rf rfl (fun v hv => absurd hv (by omega))
  refine ⟨W2, r2, D2, v, ?_, x⟩
  show jx_T 44 0 [.ref 22, .int 0, .int 1, .retAddr 0, .retAddr 0, .retAddr 0, .retAddr 0, .retAddr 0] [] _ _ _
  refine jx_T.step (pc' := 1) (st' := [_]) rfl rfl ?_
  refine jx_T.step (pc' := 2) (ls' := [_, _, _, _, _, _, _, _]) (st' := []) rfl rfl ?_
  exact t
theorem kc_pushAll (W : cw) (E : nq_env W A N F) (E2 : nq_env2 A F P) (R : nt_R W (2 * A.length) r) (fl : nq_FL A P r D c) (h0 : 0 ≤ D) : ∃ W2 r2 D2 v, jx_T 43 0 (jx_ent 43 [.ref 22, .int 0, .int 1]) [] (hc W g nx s) (some (.int v)) (hc W2 g nx s) ∧ (km_f W W2 ∧ nt_R W2 (2 * A.length) r2) ∧ nq_FL A P r2 D2 (c + (D2 - D) * (P 1 - P 0)) ∧ v.toInt = D2 - D ∧ D ≤ D2 ∧ (D2 = D → nq_cut A F r) ∧ (nq_cut A F r2 ∨ 1000000 ≤ D2 - D) := by
  have loop : ∀ (d n : Nat) (W1 : cw) (r1 : Nat → Int) (D1 : Int) (sum pu : Int32), n + d = 1000000 → km_f W W1 → nt_R W1 (2 * A.length) r1 → nq_FL A P r1 D1 (c + (D1 - D) * (P 1 - P 0)) → sum.toInt = D1 - D → (n : Int) ≤ D1 - D ∨ (pu.toInt = 0 ∧ D ≤ D1) → (pu.toInt = 0 → nq_cut A F r1) → 0 ≤ pu.toInt → (D1 = D → r1 = r) → ∃ W2 r2 D2 v, jx_T 43 8 [.ref 22, .int 0, .int 1, .int sum, .int pu, .int (nI n)] [] (hc W1 g nx s) (some (.int v)) (hc W2 g nx s) ∧ (km_f W W2 ∧ nt_R W2 (2 * A.length) r2) ∧ nq_FL A P r2 D2 (c + (D2 - D) * (P 1 - P 0)) ∧ v.toInt = D2 - D ∧ D ≤ D2 ∧ (D2 = D → nq_cut A F r) ∧ (nq_cut A F r2 ∨ 1000000 ≤ D2 - D) := by
    intro d
    induction d with
    | zero =>
      intro n W1 r1 D1 sum pu hn km R1 fl1 hs hD hcut hpu hsame
      refine ⟨W1, r1, D1, sum, ?_, ⟨km, R1⟩, fl1, hs, by omega, fun e => ?_, ?_⟩
      · refine jx_T.step (pc' := 10) (st' := [_]) rfl rfl ?_
        refine jx_T.step (pc' := 12) (st' := [_, _]) rfl rfl ?_
        rw [rf_lit 1000000]
        refine cl.bc rfl (jx_br_ge _ _) (fun _ => ?_) (fun zq => absurd (nI_le (by omega) (by omega)) zq)
        refine jx_T.step (pc' := 40) (st' := [_]) rfl rfl ?_
        exact jx_T.ret rfl rfl
      · rcases hD with q | q
        · omega
        · rw [← hsame e]
          exact hcut q.1
      · rcases hD with q | q
        · exact Or.inr (by omega)
        · exact Or.inl (hcut q.1)
    | succ d ih =>
      intro n W1 r1 D1 sum pu hn km R1 fl1 hs hD hcut hpu hsame
      by_cases z : pu.toInt = 0
      · have hD1 : D ≤ D1 := by omega
        refine ⟨W1, r1, D1, sum, ?_, ⟨km, R1⟩, fl1, hs, hD1, fun e => by rw [← hsame e]; exact hcut z, Or.inl (hcut z)⟩
        refine jx_T.step (pc' := 10) (st' := [_]) rfl rfl ?_
        refine jx_T.step (pc' := 12) (st' := [_, _]) rfl rfl ?_
        rw [rf_lit 1000000]
        refine cl.bc rfl (jx_br_ge _ _) (fun zq => absurd zq (nI_ge (by omega) (by omega))) (fun _ => ?_)
        refine jx_T.step (pc' := 17) (st' := [_]) rfl rfl ?_
        refine cl.br rfl (jx_br_le _ _) (fun _ => ?_) (fun zq => absurd (Int32.le_iff_toInt_le.mpr (by rw [z]; decide)) zq)
        refine jx_T.step (pc' := 40) (st' := [_]) rfl rfl ?_
        exact jx_T.ret rfl rfl
      · have hD1 : (n : Int) ≤ D1 - D := hD.resolve_right (fun q => z q.1)
        obtain ⟨W2, r2, D2, v, t2, ⟨k2, R2⟩, fl2, hv2, hD2, hc2⟩ := kc_pushOnce (g := g) (nx := nx) (s := s) W1 (km.E E) E2 R1 fl1 (by omega)
        have ec : c + (D1 - D) * (P 1 - P 0) + (D2 - D1) * (P 1 - P 0) = c + (D2 - D) * (P 1 - P 0) := by
          rw [Int.add_assoc, ← Int.add_mul, show D1 - D + (D2 - D1) = D2 - D by omega]
        rw [ec] at fl2
        have b1 := E2.2.2.2 _ _ _ fl2
        have hs2 : (sum + v).toInt = D2 - D := by
          rw [Int32.toInt_add, hs, hv2, show D1 - D + (D2 - D1) = D2 - D by omega]
          exact Int.bmod_eq_of_le (by omega) (by omega)
        obtain ⟨W3, r3, D3, w, t3, x⟩ := ih (n + 1) W2 r2 D2 (sum + v) v (by omega) (km.tr k2) R2 fl2 hs2 (by
          by_cases y : D2 = D1
          · exact Or.inr ⟨by omega, by omega⟩
          · exact Or.inl (by omega)) (fun y => (hc2 (by omega)).1) (by omega) (fun y => by
            have h1 : D2 = D1 := by omega
            rw [(hc2 h1).2]
            exact hsame (by omega))
        refine ⟨W3, r3, D3, w, ?_, x⟩
        refine jx_T.step (pc' := 10) (st' := [_]) rfl rfl ?_
        refine jx_T.step (pc' := 12) (st' := [_, _]) rfl rfl ?_
        rw [rf_lit 1000000]
        refine cl.bc rfl (jx_br_ge _ _) (fun zq => absurd zq (nI_ge (by omega) (by omega))) (fun _ => ?_)
        refine jx_T.step (pc' := 17) (st' := [_]) rfl rfl ?_
        refine cl.br rfl (jx_br_le _ _) (fun zq => absurd zq (fun y => by have := Int32.le_iff_toInt_le.mp y; rw [show (0 : Int32).toInt = 0 from by decide] at this; omega)) (fun _ => ?_)
        refine jx_T.step (pc' := 21) (st' := [_]) rfl rfl ?_
        refine jx_T.step (pc' := 22) (st' := [_, _]) rfl rfl ?_
        refine jx_T.step (pc' := 23) (st' := [_, _, _]) rfl rfl ?_
        refine cl.v2I (hc_fix 22 (by decide) (cw_c22 _)) rfl (by decide) rfl ⟨Nat.le_of_ble_eq_true rfl, rfl⟩ (Nat.le_of_ble_eq_true rfl) (t2) ?_
        refine jx_T.step (pc' := 28) (ls' := [_, _, _, _, _, _]) (st' := []) rfl rfl ?_
        refine jx_T.step (pc' := 29) (st' := [_]) rfl rfl ?_
        refine jx_T.step (pc' := 31) (st' := [_, _]) rfl rfl ?_
        refine jx_T.step (pc' := 32) (st' := [_]) rfl rfl ?_
        refine jx_T.step (pc' := 33) (ls' := [_, _, _, _, _, _]) (st' := []) rfl rfl ?_
        refine jx_T.step (pc' := 36) (ls' := [_, _, _, _, _, _]) (st' := []) rfl rfl ?_
        refine jx_T.step (pc' := 8) (st' := []) rfl rfl ?_
        rw [nI_1]
        exact t3
  obtain ⟨W2, r2, D2, v, t, x⟩ := loop 1000000 0 W r D 0 1 (by omega) km_f.rf R (by rw [Int.sub_self, Int.zero_mul, Int.add_zero]; exact fl) (by rw [Int.sub_self]; rfl) (Or.inl (by omega)) (fun y => absurd y (by decide)) (by decide) (fun _ => rfl)
  refine ⟨W2, r2, D2, v, ?_, x⟩
  show jx_T 43 0 [.ref 22, .int 0, .int 1, .retAddr 0, .retAddr 0, .retAddr 0] [] _ _ _
  refine jx_T.step (pc' := 1) (st' := [_]) rfl rfl ?_
  refine jx_T.step (pc' := 2) (ls' := [_, _, _, _, _, _]) (st' := []) rfl rfl ?_
  refine jx_T.step (pc' := 3) (st' := [_]) rfl rfl ?_
  refine jx_T.step (pc' := 5) (ls' := [_, _, _, _, _, _]) (st' := []) rfl rfl ?_
  refine jx_T.step (pc' := 6) (st' := [_]) rfl rfl ?_
  refine jx_T.step (pc' := 8) (ls' := [_, _, _, _, _, _]) (st' := []) rfl rfl ?_
  exact t
end
