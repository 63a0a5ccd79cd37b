/-! the reference: has, graph -/
def gr_has (N : Nat → Int32) (L : List Int32) (s p : Nat) : Int64 := if 3 ≤ N (2 + 24 * s) then (if p % 2 = 0 ∧ rf_lvl N s (N (2 + 24 * s + 3)) = L.getD (p / 2) 0 then 1125899906842624 else 0) else if N (2 + 24 * s) = 1 then (if p % 2 = 0 ∧ rf_lvl N s (N (2 + 24 * s + 3)) = L.getD (p / 2) 0 then (N (2 + 24 * s + 5)).toInt64 else 0) else if p % 2 = 1 ∧ p / 2 + 1 < L.length then rf_bw N s (L.getD (p / 2) 0) (L.getD (p / 2 + 1) 0) (rf_sp N s) else 0
theorem rc_has (r : Nat) (R : rf_R) (L : List Int32) (en : R.2.2.1 10 = nI L.length) (hn : L.length ≤ 110) (hf : ∀ k, k < L.length → R.1 9 k = L.getD k 0) (s p : Nat) (hs : s < 12) (hp : rf_sp (R.1 0) s ≤ 8) (ep : R.1 0 (2 + 24 * s + 4) = nI (rf_sp (R.1 0) s)) (hpp : p < 2 * L.length) : rf_C 196 r [.ref r, .int (nI s), .int (nI p)] R (some (.long (gr_has (R.1 0) L s p))) R := by
  have c0 := rc_of r R s 0 hs (by decide)
  rw [Nat.add_zero] at c0
  have c3 := rc_of r R s 3 hs (by decide)
  have c5 := rc_of r R s 5 hs (by decide)
  have cl : rf_C 163 r [.ref r, .int (nI s), .int (R.1 0 (2 + 24 * s + 3))] R (some (.int (rf_lvl (R.1 0) s (R.1 0 (2 + 24 * s + 3))))) R := rc_levelAt r R s hs (R.1 0 (2 + 24 * s + 3))
  have em : nI p - nI p / 2 * 2 = nI (p % 2) := by rw [rf_lit 2, pk_rem (by omega) (by decide) (by decide)]
  have ed : nI p / 2 = nI (p / 2) := by rw [rf_lit 2, pk_div (by omega) (by decide) (by decide)]
  have hk : p / 2 < L.length := by omega
  have hf1 := hf (p / 2) hk
  unfold gr_has
  generalize rf_lvl (R.1 0) s (R.1 0 (2 + 24 * s + 3)) = lv at cl ⊢
  intro h H
  show rf_G r 196 0 [.ref r, .int (nI s), .int (nI p), .retAddr 0] [] h _ _
  refine rf_G.step (pc' := 1) (st' := [_]) rfl rfl ?_
  refine rf_G.step (pc' := 2) (st' := [_, _]) rfl rfl ?_
  refine rf_G.idiv rfl (by decide) ?_
  rw [ed]
  refine rf_G.step (pc' := 4) (ls' := [_, _, _, _]) (st' := []) rfl rfl ?_
  refine rf_G.step (pc' := 5) (st' := [_]) rfl rfl ?_
  refine rf_G.step (pc' := 6) (st' := [_, _]) rfl rfl ?_
  refine rf_G.step (pc' := 7) (st' := [_, _, _]) rfl rfl ?_
  refine rf_G.v2I H rfl (by decide) rfl ⟨Nat.le_of_ble_eq_true rfl, rfl⟩ (Nat.le_of_ble_eq_true rfl) (c0) (fun h H => ?_)
  refine rf_G.step (pc' := 11) (st' := [_, _]) rfl rfl ?_
  by_cases k3 : 3 ≤ R.1 0 (2 + 24 * s)
  · rw [if_pos k3]
    refine rf_G.bc rfl (jx_br_lt _ _) (fun zq => absurd zq (Int32.not_lt.mpr k3)) (fun _ => ?_)
    refine rf_G.step (pc' := 15) (st' := [_]) rfl rfl ?_
    refine rf_G.step (pc' := 16) (st' := [_, _]) rfl rfl ?_
    refine rf_G.irem rfl (by decide) ?_
    rw [em]
    by_cases h0 : p % 2 = 0
    · rw [h0]
      refine rf_G.brn rfl (fun zq => absurd (rfl) zq) (fun _ => ?_)
      refine rf_G.step (pc' := 21) (st' := [_]) rfl rfl ?_
      refine rf_G.step (pc' := 22) (st' := [_, _]) rfl rfl ?_
      refine rf_G.step (pc' := 23) (st' := [_, _, _]) rfl rfl ?_
      refine rf_G.step (pc' := 24) (st' := [_, _, _, _]) rfl rfl ?_
      refine rf_G.step (pc' := 25) (st' := [_, _, _, _, _]) rfl rfl ?_
      refine rf_G.v2I H rfl (by decide) rfl ⟨Nat.le_of_ble_eq_true rfl, rfl⟩ (Nat.le_of_ble_eq_true rfl) (c3) (fun h H => ?_)
      refine rf_G.v2I H rfl (by decide) rfl ⟨Nat.le_of_ble_eq_true rfl, rfl⟩ (Nat.le_of_ble_eq_true rfl) (cl) (fun h H => ?_)
      refine rf_G.step (pc' := 32) (st' := [_, _]) rfl rfl ?_
      refine rf_G.get H rfl rfl ?_
      refine rf_G.step (pc' := 36) (st' := [_, _, _]) rfl rfl ?_
      refine rf_G.iald H 9 6 130 (by decide) rfl (rf_ix (by omega) (by decide)) ?_
      rw [nI_clamp (by omega), hf1]
      by_cases hl : lv = L.getD (p / 2) 0
      · rw [if_pos ⟨rfl, hl⟩]
        refine rf_G.bcn rfl (fun zq => absurd (hl) zq) (fun _ => ?_)
        refine rf_G.step (pc' := 43) (st' := [_]) rfl rfl ?_
        refine rf_G.step (pc' := 47) (st' := [_]) rfl rfl ?_
        exact rf_G.ret H rfl rfl
      · rw [if_neg (fun q => hl q.2)]
        refine rf_G.bcn rfl (fun _ => ?_) (fun zq => absurd zq (hl))
        refine rf_G.step (pc' := 47) (st' := [_]) rfl rfl ?_
        exact rf_G.ret H rfl rfl
    · rw [if_neg (fun q => h0 q.1)]
      refine rf_G.brn rfl (fun _ => ?_) (fun zq => absurd zq (fun q => h0 ((nI_z (by omega)).mp q)))
      refine rf_G.step (pc' := 47) (st' := [_]) rfl rfl ?_
      exact rf_G.ret H rfl rfl
  rw [if_neg k3]
  refine rf_G.bc rfl (jx_br_lt _ _) (fun _ => ?_) (fun zq => absurd (Int32.not_le.mp k3) zq)
  refine rf_G.step (pc' := 49) (st' := [_]) rfl rfl ?_
  refine rf_G.step (pc' := 50) (st' := [_, _]) rfl rfl ?_
  refine rf_G.step (pc' := 51) (st' := [_, _, _]) rfl rfl ?_
  refine rf_G.v2I H rfl (by decide) rfl ⟨Nat.le_of_ble_eq_true rfl, rfl⟩ (Nat.le_of_ble_eq_true rfl) (c0) (fun h H => ?_)
  refine rf_G.step (pc' := 55) (st' := [_, _]) rfl rfl ?_
  by_cases k1 : R.1 0 (2 + 24 * s) = 1
  · rw [if_pos k1]
    refine rf_G.bcn rfl (fun zq => absurd (k1) zq) (fun _ => ?_)
    refine rf_G.step (pc' := 59) (st' := [_]) rfl rfl ?_
    refine rf_G.step (pc' := 60) (st' := [_, _]) rfl rfl ?_
    refine rf_G.irem rfl (by decide) ?_
    rw [em]
    by_cases h0 : p % 2 = 0
    · rw [h0]
      refine rf_G.brn rfl (fun zq => absurd (rfl) zq) (fun _ => ?_)
      refine rf_G.step (pc' := 65) (st' := [_]) rfl rfl ?_
      refine rf_G.step (pc' := 66) (st' := [_, _]) rfl rfl ?_
      refine rf_G.step (pc' := 67) (st' := [_, _, _]) rfl rfl ?_
      refine rf_G.step (pc' := 68) (st' := [_, _, _, _]) rfl rfl ?_
      refine rf_G.step (pc' := 69) (st' := [_, _, _, _, _]) rfl rfl ?_
      refine rf_G.v2I H rfl (by decide) rfl ⟨Nat.le_of_ble_eq_true rfl, rfl⟩ (Nat.le_of_ble_eq_true rfl) (c3) (fun h H => ?_)
      refine rf_G.v2I H rfl (by decide) rfl ⟨Nat.le_of_ble_eq_true rfl, rfl⟩ (Nat.le_of_ble_eq_true rfl) (cl) (fun h H => ?_)
      refine rf_G.step (pc' := 76) (st' := [_, _]) rfl rfl ?_
      refine rf_G.get H rfl rfl ?_
      refine rf_G.step (pc' := 80) (st' := [_, _, _]) rfl rfl ?_
      refine rf_G.iald H 9 6 130 (by decide) rfl (rf_ix (by omega) (by decide)) ?_
      rw [nI_clamp (by omega), hf1]
      by_cases hl : lv = L.getD (p / 2) 0
      · rw [if_pos ⟨rfl, hl⟩]
        refine rf_G.bcn rfl (fun zq => absurd (hl) zq) (fun _ => ?_)
        refine rf_G.step (pc' := 85) (st' := [_]) rfl rfl ?_
        refine rf_G.step (pc' := 86) (st' := [_, _]) rfl rfl ?_
        refine rf_G.step (pc' := 87) (st' := [_, _, _]) rfl rfl ?_
        refine rf_G.v2I H rfl (by decide) rfl ⟨Nat.le_of_ble_eq_true rfl, rfl⟩ (Nat.le_of_ble_eq_true rfl) (c5) (fun h H => ?_)
        refine rf_G.step (pc' := 91) (st' := [_]) rfl rfl ?_
        refine rf_G.step (pc' := 95) (st' := [_]) rfl rfl ?_
        exact rf_G.ret H rfl rfl
      · rw [if_neg (fun q => hl q.2)]
        refine rf_G.bcn rfl (fun _ => ?_) (fun zq => absurd zq (hl))
        refine rf_G.step (pc' := 95) (st' := [_]) rfl rfl ?_
        exact rf_G.ret H rfl rfl
    · rw [if_neg (fun q => h0 q.1)]
      refine rf_G.brn rfl (fun _ => ?_) (fun zq => absurd zq (fun q => h0 ((nI_z (by omega)).mp q)))
      refine rf_G.step (pc' := 95) (st' := [_]) rfl rfl ?_
      exact rf_G.ret H rfl rfl
  rw [if_neg k1]
  refine rf_G.bcn rfl (fun _ => ?_) (fun zq => absurd zq (k1))
  refine rf_G.step (pc' := 97) (st' := [_]) rfl rfl ?_
  refine rf_G.step (pc' := 98) (st' := [_, _]) rfl rfl ?_
  refine rf_G.irem rfl (by decide) ?_
  refine rf_G.step (pc' := 100) (st' := [_, _]) rfl rfl ?_
  rw [em]
  by_cases h1 : p % 2 = 1
  · rw [h1]
    refine rf_G.bcn rfl (fun zq => absurd (rfl) zq) (fun _ => ?_)
    refine rf_G.step (pc' := 104) (st' := [_]) rfl rfl ?_
    refine rf_G.step (pc' := 105) (st' := [_, _]) rfl rfl ?_
    refine rf_G.step (pc' := 106) (st' := [_]) rfl rfl ?_
    refine rf_G.step (pc' := 107) (st' := [_, _]) rfl rfl ?_
    refine rf_G.get H rfl rfl ?_
    rw [nI_1, en]
    by_cases h2 : p / 2 + 1 < L.length
    · rw [if_pos ⟨rfl, h2⟩]
      refine rf_G.bc rfl (jx_br_ge _ _) (fun zq => absurd zq (nI_ge h2 (by omega))) (fun _ => ?_)
      refine rf_G.step (pc' := 114) (st' := [_]) rfl rfl ?_
      refine rf_G.step (pc' := 115) (st' := [_, _]) rfl rfl ?_
      refine rf_G.step (pc' := 116) (st' := [_, _, _]) rfl rfl ?_
      refine rf_G.get H rfl rfl ?_
      refine rf_G.step (pc' := 120) (st' := [_, _, _, _]) rfl rfl ?_
      refine rf_G.iald H 9 6 130 (by decide) rfl (rf_ix (by omega) (by decide)) ?_
      rw [nI_clamp (by omega), hf1]
      refine rf_G.step (pc' := 122) (st' := [_, _, _, _]) rfl rfl ?_
      refine rf_G.get H rfl rfl ?_
      refine rf_G.step (pc' := 126) (st' := [_, _, _, _, _]) rfl rfl ?_
      refine rf_G.step (pc' := 127) (st' := [_, _, _, _, _, _]) rfl rfl ?_
      refine rf_G.step (pc' := 128) (st' := [_, _, _, _, _]) rfl rfl ?_
      rw [nI_1]
      refine rf_G.iald H 9 6 130 (by decide) rfl (rf_ix (by omega) (by decide)) ?_
      rw [nI_clamp (by omega), hf _ h2]
      refine rf_G.v3I H rfl (by decide) rfl ⟨Nat.le_of_ble_eq_true rfl, rfl⟩ (Nat.le_of_ble_eq_true rfl) (rc_between r R s _ hs hp ep _ _) (fun h H => ?_)
      refine rf_G.step (pc' := 136) (st' := [_]) rfl rfl ?_
      exact rf_G.ret H rfl rfl
    · rw [if_neg (fun q => h2 q.2)]
      refine rf_G.bc rfl (jx_br_ge _ _) (fun _ => ?_) (fun zq => absurd (nI_le (by omega) (by omega)) zq)
      refine rf_G.step (pc' := 136) (st' := [_]) rfl rfl ?_
      exact rf_G.ret H rfl rfl
  · rw [if_neg (fun q => h1 q.1)]
    refine rf_G.bcn rfl (fun _ => ?_) (fun zq => absurd zq (fun q => h1 ((nI_inj (by omega) (by decide)).mp q)))
    refine rf_G.step (pc' := 136) (st' := [_]) rfl rfl ?_
    exact rf_G.ret H rfl rfl
