/-! acts of the reference: bent -/
/-- the numbers that are there are as told -/
def bn_w (hot w x : Int32) (k : Nat) : Int32 := if k % 2 = 0 then (if hot = 0 then w + x else w + -x) else w
def bn_ok (N : Nat → Int32) (a : Nat) (hot : Int32) : Nat → Nat → Int32 → Bool
  | 0, _, _ => true
  | d + 1, k, w => if (1 ≤ (N (a + k)).toInt ∧ (N (a + k)).toInt ≤ if k % 2 = 0 then 500 else 1000) ∧ (0 ≤ (bn_w hot w (N (a + k)) k).toInt ∧ (bn_w hot w (N (a + k)) k).toInt ≤ 2000) then bn_ok N a hot d (k + 1) (bn_w hot w (N (a + k)) k) else false
theorem rc_bent_1 (r : Nat) (R : rf_R) (w hot from_ sh sp : Int32) (hb : ¬ ((0 ≤ w.toInt ∧ w.toInt ≤ 2) ∧ (0 ≤ sh.toInt ∧ sh.toInt ≤ 7))) : rf_C 148 r [.ref r, .int w, .int hot, .int from_, .int sh, .int sp] R (some (.int 1)) R := by
  intro h H
  show rf_G r 148 0 [.ref r, .int w, .int hot, .int from_, .int sh, .int sp, .retAddr 0, .retAddr 0, .retAddr 0, .retAddr 0] [] h _ _
  refine rf_G.step (pc' := 1) (st' := [_]) rfl rfl ?_
  refine rf_G.step (pc' := 2) (st' := [_]) rfl rfl ?_
  refine rf_G.step (pc' := 3) (st' := [_, _]) rfl rfl ?_
  refine rf_G.step (pc' := 6) (st' := [_, _, _]) rfl rfl ?_
  refine rf_G.s3 rfl (by decide) rfl (Nat.le_of_ble_eq_true rfl) (Nat.le_of_ble_eq_true rfl) (fun h => rc_inI _ _ _ h) ?_
  rw [rf_w]
  refine rf_G.br rfl (jx_br_eq _ _) (fun z => ?_) (fun z => ?_)
  · refine rf_G.step (pc' := 22) (st' := [_]) rfl rfl ?_
    exact rf_G.ret H rfl rfl
  · have z1 := Decidable.not_not.mp (fun y => z ((rf_o_0 _).mpr y))
    refine rf_G.step (pc' := 13) (st' := [_]) rfl rfl ?_
    refine rf_G.step (pc' := 15) (st' := [_, _]) rfl rfl ?_
    refine rf_G.v1I H rfl (by decide) rfl ⟨Nat.le_of_ble_eq_true rfl, rfl⟩ (Nat.le_of_ble_eq_true rfl) (rc_isSheetI r R sh) (fun h H => ?_)
    refine rf_G.brn rfl (fun z => absurd ((rf_o_0 _).mpr (fun t => hb ⟨z1, t⟩)) z) (fun _ => ?_)
    refine rf_G.step (pc' := 22) (st' := [_]) rfl rfl ?_
    exact rf_G.ret H rfl rfl
theorem rc_bent_2 (r : Nat) (R : rf_R) (w hot from_ sh sp : Int32) (hw : 0 ≤ w.toInt ∧ w.toInt ≤ 2) (hs : 0 ≤ sh.toInt ∧ sh.toInt ≤ 7) (eM : R.1 0 0 = nI 12) : rf_C 148 r [.ref r, .int w, .int hot, .int from_, .int sh, .int sp] R (some (.int 2)) R := by
  intro h H
  show rf_G r 148 0 [.ref r, .int w, .int hot, .int from_, .int sh, .int sp, .retAddr 0, .retAddr 0, .retAddr 0, .retAddr 0] [] h _ _
  refine rf_G.step (pc' := 1) (st' := [_]) rfl rfl ?_
  refine rf_G.step (pc' := 2) (st' := [_]) rfl rfl ?_
  refine rf_G.step (pc' := 3) (st' := [_, _]) rfl rfl ?_
  refine rf_G.step (pc' := 6) (st' := [_, _, _]) rfl rfl ?_
  refine rf_G.s3 rfl (by decide) rfl (Nat.le_of_ble_eq_true rfl) (Nat.le_of_ble_eq_true rfl) (fun h => rc_inI _ _ _ h) ?_
  rw [rf_w]
  refine rf_G.br rfl (jx_br_eq _ _) (fun z => absurd z (fun q => (rf_o_0 _).mp q hw)) (fun _ => ?_)
  refine rf_G.step (pc' := 13) (st' := [_]) rfl rfl ?_
  refine rf_G.step (pc' := 15) (st' := [_, _]) rfl rfl ?_
  refine rf_G.v1I H rfl (by decide) rfl ⟨Nat.le_of_ble_eq_true rfl, rfl⟩ (Nat.le_of_ble_eq_true rfl) (rc_isSheetI r R sh) (fun h H => ?_)
  refine rf_G.brn rfl (fun _ => ?_) (fun z => absurd z (fun q => (rf_o_0 _).mp q hs))
  refine rf_G.step (pc' := 24) (st' := [_]) rfl rfl ?_
  refine rf_G.get H rfl rfl ?_
  refine rf_G.step (pc' := 28) (st' := [_, _]) rfl rfl ?_
  refine rf_G.iald H 0 1 822 (by decide) rfl (rf_ix (n := 0) (by decide) (by decide)) ?_
  refine rf_G.step (pc' := 31) (st' := [_, _]) rfl rfl ?_
  rw [show R.1 0 (Int32.toNatClampNeg 0) = nI 12 from eM]
  refine rf_G.bcn rfl (fun z => absurd (rfl) z) (fun _ => ?_)
  refine rf_G.step (pc' := 35) (st' := [_]) rfl rfl ?_
  exact rf_G.ret H rfl rfl
theorem bn_loop (r : Nat) (R : rf_R) (sh l t : Nat) (hk : sh < 8) (hl : l ≤ 16) (el : rf_fl (R.1 0) sh = nI l) (ht : t ≤ l) (w0 hot from_ sp : Int32) (v : Option Value) (R2 : rf_R) : ∀ d k w u, k + d = t → ∀ h, rf_At r R h → (bn_ok (R.1 0) (290 + 18 * sh + 2) hot d k w = true → ∀ w' u' h', rf_At r R h' → rf_G r 148 187 [.ref r, .int w0, .int hot, .int from_, .int (nI sh), .int sp, .int (nI t), .int w', .int (nI t), u'] [] h' v R2) → (bn_ok (R.1 0) (290 + 18 * sh + 2) hot d k w = false → v = some (.int 3) ∧ R2 = R) → rf_G r 148 97 [.ref r, .int w0, .int hot, .int from_, .int (nI sh), .int sp, .int (nI t), .int w, .int (nI k), u] [] h v R2 := by
  intro d
  induction d with
  | zero =>
    intro k w u hkt h H K _
    obtain rfl : k = t := by omega
    refine rf_G.step (pc' := 99) (st' := [_]) rfl rfl ?_
    refine rf_G.step (pc' := 101) (st' := [_, _]) rfl rfl ?_
    refine rf_G.bc rfl (jx_br_ge _ _) (fun _ => ?_) (fun z => absurd (Int32.le_refl _) z)
    exact K rfl w u h H
  | succ d ih =>
    intro k w u hkt h H K F
    have cn := rc_number r R sh hk (nI k) l hl el
    rw [nI_toInt (by omega), if_pos (by omega), Int.toNat_natCast] at cn
    unfold bn_ok at K F
    generalize hx : R.1 0 (290 + 18 * sh + 2 + k) = x at cn K F
    have em : nI k - nI k / 2 * 2 = nI (k % 2) := by rw [rf_lit 2, pk_rem (by omega) (by decide) (by decide)]
    refine rf_G.step (pc' := 99) (st' := [_]) rfl rfl ?_
    refine rf_G.step (pc' := 101) (st' := [_, _]) rfl rfl ?_
    refine rf_G.bc rfl (jx_br_ge _ _) (fun z => absurd z (nI_ge (by omega) (by omega))) (fun _ => ?_)
    refine rf_G.step (pc' := 105) (st' := [_]) rfl rfl ?_
    refine rf_G.step (pc' := 107) (st' := [_, _]) rfl rfl ?_
    refine rf_G.step (pc' := 109) (st' := [_, _, _]) rfl rfl ?_
    refine rf_G.v2I H rfl (by decide) rfl ⟨Nat.le_of_ble_eq_true rfl, rfl⟩ (Nat.le_of_ble_eq_true rfl) (cn) (fun h H => ?_)
    refine rf_G.step (pc' := 114) (ls' := [_, _, _, _, _, _, _, _, _, _]) (st' := []) rfl rfl ?_
    refine rf_G.step (pc' := 116) (st' := [_]) rfl rfl ?_
    refine rf_G.step (pc' := 117) (st' := [_]) rfl rfl ?_
    refine rf_G.step (pc' := 118) (st' := [_, _]) rfl rfl ?_
    refine rf_G.step (pc' := 120) (st' := [_, _, _]) rfl rfl ?_
    refine rf_G.step (pc' := 121) (st' := [_, _, _, _]) rfl rfl ?_
    refine rf_G.irem rfl (by decide) ?_
    rw [em]
    have t166 : ∀ u h, rf_At r R h → (1 ≤ x.toInt ∧ x.toInt ≤ if k % 2 = 0 then 500 else 1000) → rf_G r 148 166 [.ref r, .int w0, .int hot, .int from_, .int (nI sh), .int sp, .int (nI t), .int (bn_w hot w x k), .int (nI k), u] [] h v R2 := by
      intro u h H g1
      refine rf_G.step (pc' := 168) (st' := [_]) rfl rfl ?_
      refine rf_G.step (pc' := 169) (st' := [_]) rfl rfl ?_
      refine rf_G.step (pc' := 170) (st' := [_, _]) rfl rfl ?_
      refine rf_G.step (pc' := 173) (st' := [_, _, _]) rfl rfl ?_
      refine rf_G.s3 rfl (by decide) rfl (Nat.le_of_ble_eq_true rfl) (Nat.le_of_ble_eq_true rfl) (fun h => rc_inI _ _ _ h) ?_
      rw [rf_w]
      by_cases g2 : 0 ≤ (bn_w hot w x k).toInt ∧ (bn_w hot w x k).toInt ≤ 2000
      · rw [if_pos ⟨g1, g2⟩] at K F
        refine rf_G.brn rfl (fun _ => ?_) (fun z => absurd z (fun q => (rf_o_0 _).mp q g2))
        refine rf_G.step (pc' := 184) (ls' := [_, _, _, _, _, _, _, _, _, _]) (st' := []) rfl rfl ?_
        refine rf_G.step (pc' := 97) (st' := []) rfl rfl ?_
        rw [nI_1]
        exact ih (k + 1) _ _ (by omega) h H K F
      · rw [if_neg (fun q => g2 q.2)] at F
        obtain ⟨rfl, rfl⟩ := F rfl
        refine rf_G.brn rfl (fun z => absurd ((rf_o_0 _).mpr g2) z) (fun _ => ?_)
        refine rf_G.step (pc' := 180) (st' := [_]) rfl rfl ?_
        exact rf_G.ret H rfl rfl
    have t142 : ∀ h, rf_At r R h → (1 ≤ x.toInt ∧ x.toInt ≤ if k % 2 = 0 then 500 else 1000) → rf_G r 148 142 [.ref r, .int w0, .int hot, .int from_, .int (nI sh), .int sp, .int (nI t), .int w, .int (nI k), .int x] [] h v R2 := by
      intro h H g1
      refine rf_G.step (pc' := 144) (st' := [_]) rfl rfl ?_
      refine rf_G.step (pc' := 145) (st' := [_, _]) rfl rfl ?_
      refine rf_G.irem rfl (by decide) ?_
      rw [em]
      by_cases h2 : k % 2 = 0
      · rw [h2]
        refine rf_G.brn rfl (fun z => absurd (rfl) z) (fun _ => ?_)
        refine rf_G.step (pc' := 151) (st' := [_]) rfl rfl ?_
        refine rf_G.step (pc' := 152) (st' := [_, _]) rfl rfl ?_
        unfold bn_w at t166
        rw [if_pos h2, if_pos h2] at t166
        rw [if_pos h2] at g1
        refine rf_G.br rfl (jx_br_eq _ _) (fun y => ?_) (fun y => ?_)
        · rw [if_pos y] at t166
          refine rf_G.step (pc' := 163) (st' := [_, _]) rfl rfl ?_
          refine rf_G.step (pc' := 164) (st' := [_]) rfl rfl ?_
          refine rf_G.step (pc' := 166) (ls' := [_, _, _, _, _, _, _, _, _, _]) (st' := []) rfl rfl ?_
          exact t166 _ h H g1
        · rw [if_neg y] at t166
          refine rf_G.step (pc' := 157) (st' := [_, _]) rfl rfl ?_
          refine rf_G.step (pc' := 158) (st' := [_, _]) rfl rfl ?_
          refine rf_G.step (pc' := 163) (st' := [_, _]) rfl rfl ?_
          refine rf_G.step (pc' := 164) (st' := [_]) rfl rfl ?_
          refine rf_G.step (pc' := 166) (ls' := [_, _, _, _, _, _, _, _, _, _]) (st' := []) rfl rfl ?_
          exact t166 _ h H g1
      · rw [show k % 2 = 1 by omega]
        unfold bn_w at t166
        rw [if_neg h2, if_neg h2] at t166
        rw [if_neg h2] at g1
        refine rf_G.brn rfl (fun _ => ?_) (fun z => absurd z (by decide))
        exact t166 _ h H g1
    by_cases h2 : k % 2 = 0
    · rw [h2]
      refine rf_G.brn rfl (fun z => absurd (rfl) z) (fun _ => ?_)
      rw [if_pos h2] at t142 F
      refine rf_G.step (pc' := 128) (st' := [_, _, _]) rfl rfl ?_
      refine rf_G.step (pc' := 134) (st' := [_, _, _]) rfl rfl ?_
      refine rf_G.s3 rfl (by decide) rfl (Nat.le_of_ble_eq_true rfl) (Nat.le_of_ble_eq_true rfl) (fun h => rc_inI _ _ _ h) ?_
      rw [rf_w]
      by_cases g1 : 1 ≤ x.toInt ∧ x.toInt ≤ 500
      · refine rf_G.brn rfl (fun _ => ?_) (fun z => absurd z (fun q => (rf_o_0 _).mp q g1))
        exact t142 h H g1
      · refine rf_G.brn rfl (fun z => absurd ((rf_o_0 _).mpr g1) z) (fun _ => ?_)
        rw [if_neg (fun q => g1 q.1)] at F
        obtain ⟨rfl, rfl⟩ := F rfl
        refine rf_G.step (pc' := 141) (st' := [_]) rfl rfl ?_
        exact rf_G.ret H rfl rfl
    · rw [show k % 2 = 1 by omega]
      refine rf_G.brn rfl (fun _ => ?_) (fun z => absurd z (by decide))
      rw [if_neg h2] at t142 F
      refine rf_G.step (pc' := 134) (st' := [_, _, _]) rfl rfl ?_
      refine rf_G.s3 rfl (by decide) rfl (Nat.le_of_ble_eq_true rfl) (Nat.le_of_ble_eq_true rfl) (fun h => rc_inI _ _ _ h) ?_
      rw [rf_w]
      by_cases g1 : 1 ≤ x.toInt ∧ x.toInt ≤ 1000
      · refine rf_G.brn rfl (fun _ => ?_) (fun z => absurd z (fun q => (rf_o_0 _).mp q g1))
        exact t142 h H g1
      · refine rf_G.brn rfl (fun z => absurd ((rf_o_0 _).mpr g1) z) (fun _ => ?_)
        rw [if_neg (fun q => g1 q.1)] at F
        obtain ⟨rfl, rfl⟩ := F rfl
        refine rf_G.step (pc' := 141) (st' := [_]) rfl rfl ?_
        exact rf_G.ret H rfl rfl
def rf_btN (N : Nat → Int32) (M sh p : Nat) (w hot from_ : Int32) : Nat → Int32 := upd (rf_put (upd (rf_bg N M 2 hot w from_) (2 + 24 * M + 4) (nI p)) (fun c => N (290 + 18 * sh + 2 + c)) (2 + 24 * M + 6) (2 * p)) 0 (nI (M + 1))
theorem rf_bg_hi (N : Nat → Int32) (M : Nat) (hM : M < 12) (kind hot work from_ : Int32) (j : Nat) (hj : 290 ≤ j) : rf_bg N M kind hot work from_ j = N j := by
  unfold rf_bg
  rw [rf_up_ne (by omega), rf_up_ne (by omega), rf_up_ne (by omega), rf_up_ne (by omega)]
  exact if_neg (by omega)
theorem rc_bent_ok (r : Nat) (R : rf_R) (B D : Nat) (hB : B < 201) (hD : D ≤ 200) (e2 : R.2.2.1 2 = nI B) (e3 : R.2.2.1 3 = nI D) (M : Nat) (hM : M < 12) (eM : R.1 0 0 = nI M) (sh l p : Nat) (hk : sh < 8) (hl : l ≤ 16) (el : rf_fl (R.1 0) sh = nI l) (hp : 2 * p ≤ l) (w hot from_ : Int32) (u6 u8 u9 : Value) (w7 : Int32) : ∀ h, rf_At r R h → rf_G r 148 214 [.ref r, .int w, .int hot, .int from_, .int (nI sh), .int (nI p), u6, .int w7, u8, u9] [] h (some (.int 0)) (rf_acts (rf_sA R 0 (rf_btN (R.1 0) M sh p w hot from_)) B D) := by
  have e2p : (2 : Int32) * nI p = nI (2 * p) := by rw [rf_lit 2, pk_mul]
  have hi : ∀ (c j : Nat), 290 ≤ j → rf_put (upd (rf_bg (R.1 0) M 2 hot w from_) (2 + 24 * M + 4) (nI p)) (fun c => R.1 0 (290 + 18 * sh + 2 + c)) (2 + 24 * M + 6) c j = R.1 0 j ∨ 2 * p < c := by
    intro c j hj
    by_cases hc : 2 * p < c
    · exact Or.inr hc
    · left
      unfold rf_put
      rw [if_neg (by omega), rf_up_ne (by omega)]
      exact rf_bg_hi _ _ hM _ _ _ _ j hj
  have loop : ∀ d c, c + d = 2 * p → ∀ h, rf_At r (rf_sA R 0 (rf_put (upd (rf_bg (R.1 0) M 2 hot w from_) (2 + 24 * M + 4) (nI p)) (fun c => R.1 0 (290 + 18 * sh + 2 + c)) (2 + 24 * M + 6) c)) h → rf_G r 148 238 [.ref r, .int w, .int hot, .int from_, .int (nI sh), .int (nI p), u6, .int w7, .int (nI (2 + 24 * M)), .int (nI c)] [] h (some (.int 0)) (rf_acts (rf_sA R 0 (rf_btN (R.1 0) M sh p w hot from_)) B D) := by
    intro d
    induction d with
    | zero =>
      intro c hc h H
      obtain rfl : c = 2 * p := by omega
      refine rf_G.step (pc' := 240) (st' := [_]) rfl rfl ?_
      refine rf_G.step (pc' := 241) (st' := [_, _]) rfl rfl ?_
      refine rf_G.step (pc' := 243) (st' := [_, _, _]) rfl rfl ?_
      refine rf_G.step (pc' := 244) (st' := [_, _]) rfl rfl ?_
      rw [e2p]
      refine rf_G.bc rfl (jx_br_ge _ _) (fun _ => ?_) (fun z => absurd (Int32.le_refl _) z)
      have cc := rc_comes r (rf_sA R 0 (rf_put (upd (rf_bg (R.1 0) M 2 hot w from_) (2 + 24 * M + 4) (nI p)) (fun c => R.1 0 (290 + 18 * sh + 2 + c)) (2 + 24 * M + 6) (2 * p))) B D M hB hD e2 e3 (by
        rw [rf_sA_at, rf_put_lo (by omega), rf_up_ne (by omega), rf_bg_0]
        exact eM)
      rw [rf_sA_sA, rf_sA_at] at cc
      refine rf_G.step (pc' := 275) (st' := [_]) rfl rfl ?_
      refine rf_G.v0I H rfl (by decide) rfl ⟨Nat.le_of_ble_eq_true rfl, rfl⟩ (Nat.le_of_ble_eq_true rfl) (cc) (fun h H => ?_)
      exact rf_G.ret H rfl rfl
    | succ d ih =>
      intro c hc h H
      have cn := rc_number r (rf_sA R 0 (rf_put (upd (rf_bg (R.1 0) M 2 hot w from_) (2 + 24 * M + 4) (nI p)) (fun c => R.1 0 (290 + 18 * sh + 2 + c)) (2 + 24 * M + 6) c)) sh hk (nI c) l hl (by
        rw [rf_sA_at, (hi c _ (by omega)).resolve_right (by omega), (hi c _ (by omega)).resolve_right (by omega)]
        exact el)
      rw [nI_toInt (by omega), if_pos (by omega), Int.toNat_natCast, rf_sA_at, (hi c _ (by omega)).resolve_right (by omega)] at cn
      refine rf_G.step (pc' := 240) (st' := [_]) rfl rfl ?_
      refine rf_G.step (pc' := 241) (st' := [_, _]) rfl rfl ?_
      refine rf_G.step (pc' := 243) (st' := [_, _, _]) rfl rfl ?_
      refine rf_G.step (pc' := 244) (st' := [_, _]) rfl rfl ?_
      rw [e2p]
      refine rf_G.bc rfl (jx_br_ge _ _) (fun z => absurd z (nI_ge (by omega) (by omega))) (fun _ => ?_)
      refine rf_G.step (pc' := 248) (st' := [_]) rfl rfl ?_
      refine rf_G.get H rfl rfl ?_
      refine rf_G.step (pc' := 253) (st' := [_, _]) rfl rfl ?_
      refine rf_G.step (pc' := 255) (st' := [_, _, _]) rfl rfl ?_
      refine rf_G.step (pc' := 256) (st' := [_, _]) rfl rfl ?_
      refine rf_G.step (pc' := 258) (st' := [_, _, _]) rfl rfl ?_
      refine rf_G.step (pc' := 259) (st' := [_, _]) rfl rfl ?_
      rw [show nI (2 + 24 * M) + 6 + nI c = nI (2 + 24 * M + 6 + c) by rw [rf_lit 6, nI_add, nI_add]]
      refine rf_G.step (pc' := 260) (st' := [_, _, _]) rfl rfl ?_
      refine rf_G.step (pc' := 262) (st' := [_, _, _, _]) rfl rfl ?_
      refine rf_G.step (pc' := 264) (st' := [_, _, _, _, _]) rfl rfl ?_
      refine rf_G.v2I H rfl (by decide) rfl ⟨Nat.le_of_ble_eq_true rfl, rfl⟩ (Nat.le_of_ble_eq_true rfl) (cn) (fun h H => ?_)
      refine rf_G.iast H 0 1 822 (by decide) rfl (rf_ix (by omega) (by decide)) (fun h H => ?_)
      rw [nI_clamp (by omega), rf_sA_sA, rf_sA_at] at H
      have H2 : rf_At r (rf_sA R 0 (rf_put (upd (rf_bg (R.1 0) M 2 hot w from_) (2 + 24 * M + 4) (nI p)) (fun c => R.1 0 (290 + 18 * sh + 2 + c)) (2 + 24 * M + 6) (c + 1))) h := by
        rw [← rf_put_s]
        exact H
      refine rf_G.step (pc' := 271) (ls' := [_, _, _, _, _, _, _, _, _, _]) (st' := []) rfl rfl ?_
      refine rf_G.step (pc' := 238) (st' := []) rfl rfl ?_
      rw [nI_1]
      exact ih (c + 1) (by omega) h H2
  intro h H
  refine rf_G.step (pc' := 215) (st' := [_]) rfl rfl ?_
  refine rf_G.step (pc' := 216) (st' := [_, _]) rfl rfl ?_
  refine rf_G.step (pc' := 217) (st' := [_, _, _]) rfl rfl ?_
  refine rf_G.step (pc' := 218) (st' := [_, _, _, _]) rfl rfl ?_
  refine rf_G.step (pc' := 219) (st' := [_, _, _, _, _]) rfl rfl ?_
  refine rf_G.v4I H rfl (by decide) rfl ⟨Nat.le_of_ble_eq_true rfl, rfl⟩ (Nat.le_of_ble_eq_true rfl) (rc_begins r R M hM eM 2 hot w from_) (fun h H => ?_)
  refine rf_G.step (pc' := 224) (ls' := [_, _, _, _, _, _, _, _, _, _]) (st' := []) rfl rfl ?_
  refine rf_G.step (pc' := 225) (st' := [_]) rfl rfl ?_
  refine rf_G.get H rfl rfl ?_
  refine rf_G.step (pc' := 230) (st' := [_, _]) rfl rfl ?_
  refine rf_G.step (pc' := 231) (st' := [_, _, _]) rfl rfl ?_
  refine rf_G.step (pc' := 232) (st' := [_, _]) rfl rfl ?_
  rw [show nI (2 + 24 * M) + 4 = nI (2 + 24 * M + 4) by rw [rf_lit 4, nI_add]]
  refine rf_G.step (pc' := 234) (st' := [_, _, _]) rfl rfl ?_
  refine rf_G.iast H 0 1 822 (by decide) rfl (rf_ix (by omega) (by decide)) (fun h H => ?_)
  rw [nI_clamp (by omega), rf_sA_sA, rf_sA_at] at H
  refine rf_G.step (pc' := 236) (st' := [_]) rfl rfl ?_
  refine rf_G.step (pc' := 238) (ls' := [_, _, _, _, _, _, _, _, _, _]) (st' := []) rfl rfl ?_
  exact loop (2 * p) 0 (by omega) h (by rw [rf_put_0]; exact H)
def rf_btc (N : Nat → Int32) (sh l : Nat) (hot from_ sp : Int32) : Int32 := if ¬ ((0 ≤ from_.toInt ∧ from_.toInt ≤ 2000) ∧ (1 ≤ sp.toInt ∧ sp.toInt ≤ 8)) then 3 else if bn_ok N (290 + 18 * sh + 2) hot (min l (2 * sp.toNatClampNeg)) 0 from_ = false then 3 else if N (290 + 18 * sh) = -1 then 4 else if l < 2 * sp.toNatClampNeg then 5 else 0
theorem rc_bent (r : Nat) (R : rf_R) (B D : Nat) (hB : B < 201) (hD : D ≤ 200) (e2 : R.2.2.1 2 = nI B) (e3 : R.2.2.1 3 = nI D) (M : Nat) (hM : M < 12) (eM : R.1 0 0 = nI M) (sh l : Nat) (hk : sh < 8) (hl : l ≤ 16) (el : rf_fl (R.1 0) sh = nI l) (w hot from_ sp : Int32) (hw : 0 ≤ w.toInt ∧ w.toInt ≤ 2) : rf_C 148 r [.ref r, .int w, .int hot, .int from_, .int (nI sh), .int sp] R (some (.int (rf_btc (R.1 0) sh l hot from_ sp))) (if rf_btc (R.1 0) sh l hot from_ sp = 0 then rf_acts (rf_sA R 0 (rf_btN (R.1 0) M sh sp.toNatClampNeg w hot from_)) B D else R) := by
  have cl := rc_length r R sh hk
  rw [show (if R.1 0 (290 + 18 * sh) = -1 then 0 else R.1 0 (290 + 18 * sh + 1)) = nI l from el] at cl
  intro h H
  show rf_G r 148 0 [.ref r, .int w, .int hot, .int from_, .int (nI sh), .int sp, .retAddr 0, .retAddr 0, .retAddr 0, .retAddr 0] [] h _ _
  refine rf_G.step (pc' := 1) (st' := [_]) rfl rfl ?_
  refine rf_G.step (pc' := 2) (st' := [_]) rfl rfl ?_
  refine rf_G.step (pc' := 3) (st' := [_, _]) rfl rfl ?_
  refine rf_G.step (pc' := 6) (st' := [_, _, _]) rfl rfl ?_
  refine rf_G.s3 rfl (by decide) rfl (Nat.le_of_ble_eq_true rfl) (Nat.le_of_ble_eq_true rfl) (fun h => rc_inI _ _ _ h) ?_
  rw [rf_w]
  refine rf_G.br rfl (jx_br_eq _ _) (fun z => absurd z (fun q => (rf_o_0 _).mp q hw)) (fun _ => ?_)
  refine rf_G.step (pc' := 13) (st' := [_]) rfl rfl ?_
  refine rf_G.step (pc' := 15) (st' := [_, _]) rfl rfl ?_
  refine rf_G.v1I H rfl (by decide) rfl ⟨Nat.le_of_ble_eq_true rfl, rfl⟩ (Nat.le_of_ble_eq_true rfl) (rc_isSheetI r R (nI sh)) (fun h H => ?_)
  refine rf_G.brn rfl (fun _ => ?_) (fun z => absurd z (fun q => (rf_o_0 _).mp q (rf_k8 hk)))
  refine rf_G.step (pc' := 24) (st' := [_]) rfl rfl ?_
  refine rf_G.get H rfl rfl ?_
  refine rf_G.step (pc' := 28) (st' := [_, _]) rfl rfl ?_
  refine rf_G.iald H 0 1 822 (by decide) rfl (rf_ix (n := 0) (by decide) (by decide)) ?_
  refine rf_G.step (pc' := 31) (st' := [_, _]) rfl rfl ?_
  rw [show R.1 0 (Int32.toNatClampNeg 0) = nI M from eM]
  refine rf_G.bcn rfl (fun _ => ?_) (fun z => absurd z (rf_n12 hM))
  refine rf_G.step (pc' := 37) (st' := [_]) rfl rfl ?_
  refine rf_G.step (pc' := 38) (st' := [_]) rfl rfl ?_
  refine rf_G.step (pc' := 39) (st' := [_, _]) rfl rfl ?_
  refine rf_G.step (pc' := 42) (st' := [_, _, _]) rfl rfl ?_
  refine rf_G.s3 rfl (by decide) rfl (Nat.le_of_ble_eq_true rfl) (Nat.le_of_ble_eq_true rfl) (fun h => rc_inI _ _ _ h) ?_
  rw [rf_w]
  by_cases c3 : (0 ≤ from_.toInt ∧ from_.toInt ≤ 2000) ∧ (1 ≤ sp.toInt ∧ sp.toInt ≤ 8)
  · refine rf_G.br rfl (jx_br_eq _ _) (fun z => absurd z (fun q => (rf_o_0 _).mp q c3.1)) (fun _ => ?_)
    refine rf_G.step (pc' := 50) (st' := [_]) rfl rfl ?_
    refine rf_G.step (pc' := 51) (st' := [_]) rfl rfl ?_
    refine rf_G.step (pc' := 52) (st' := [_, _]) rfl rfl ?_
    refine rf_G.step (pc' := 55) (st' := [_, _, _]) rfl rfl ?_
    refine rf_G.s3 rfl (by decide) rfl (Nat.le_of_ble_eq_true rfl) (Nat.le_of_ble_eq_true rfl) (fun h => rc_inI _ _ _ h) ?_
    rw [rf_w]
    refine rf_G.brn rfl (fun _ => ?_) (fun z => absurd z (fun q => (rf_o_0 _).mp q c3.2))
    obtain ⟨p, hp, rfl⟩ := rf_nI (x := sp) (n := 8) ⟨by omega, c3.2.2⟩ (by decide)
    have hp1 : 1 ≤ p := by
      have := c3.2.1
      rw [nI_toInt (by omega)] at this
      omega
    have e2p : (2 : Int32) * nI p = nI (2 * p) := by rw [rf_lit 2, pk_mul]
    have ec : rf_btc (R.1 0) sh l hot from_ (nI p) = if bn_ok (R.1 0) (290 + 18 * sh + 2) hot (min l (2 * p)) 0 from_ = false then 3 else if R.1 0 (290 + 18 * sh) = -1 then 4 else if l < 2 * p then 5 else 0 := by
      unfold rf_btc
      rw [if_neg (fun q => q c3), nI_clamp (by omega)]
    rw [ec, nI_clamp (by omega)]
    have t89 : ∀ t, t = min l (2 * p) → ∀ h, rf_At r R h → rf_G r 148 89 [.ref r, .int w, .int hot, .int from_, .int (nI sh), .int (nI p), .retAddr 0, .retAddr 0, .retAddr 0, .retAddr 0] [.int (nI t)] h (some (.int (if bn_ok (R.1 0) (290 + 18 * sh + 2) hot (min l (2 * p)) 0 from_ = false then 3 else if R.1 0 (290 + 18 * sh) = -1 then 4 else if l < 2 * p then 5 else 0))) (if (if bn_ok (R.1 0) (290 + 18 * sh + 2) hot (min l (2 * p)) 0 from_ = false then (3 : Int32) else if R.1 0 (290 + 18 * sh) = -1 then 4 else if l < 2 * p then 5 else 0) = 0 then rf_acts (rf_sA R 0 (rf_btN (R.1 0) M sh p w hot from_)) B D else R) := by
      intro t ht h H
      rw [← ht]
      refine rf_G.step (pc' := 91) (ls' := [_, _, _, _, _, _, _, _, _, _]) (st' := []) rfl rfl ?_
      refine rf_G.step (pc' := 92) (st' := [_]) rfl rfl ?_
      refine rf_G.step (pc' := 94) (ls' := [_, _, _, _, _, _, _, _, _, _]) (st' := []) rfl rfl ?_
      refine rf_G.step (pc' := 95) (st' := [_]) rfl rfl ?_
      refine rf_G.step (pc' := 97) (ls' := [_, _, _, _, _, _, _, _, _, _]) (st' := []) rfl rfl ?_
      refine bn_loop r R sh l t hk hl el (by omega) w hot from_ (nI p) _ _ t 0 from_ _ (by omega) h H (fun b w' u' h H => ?_) (fun b => ?_)
      · rw [if_neg (by rw [b]; decide)]
        refine rf_G.step (pc' := 188) (st' := [_]) rfl rfl ?_
        refine rf_G.step (pc' := 190) (st' := [_, _]) rfl rfl ?_
        refine rf_G.v1I H rfl (by decide) rfl ⟨Nat.le_of_ble_eq_true rfl, rfl⟩ (Nat.le_of_ble_eq_true rfl) (rc_form r R sh hk) (fun h H => ?_)
        refine rf_G.step (pc' := 194) (st' := [_, _]) rfl rfl ?_
        by_cases c4 : R.1 0 (290 + 18 * sh) = -1
        · rw [if_pos c4, if_neg (by decide)]
          refine rf_G.bcn rfl (fun z => absurd (c4) z) (fun _ => ?_)
          refine rf_G.step (pc' := 198) (st' := [_]) rfl rfl ?_
          exact rf_G.ret H rfl rfl
        · rw [if_neg c4]
          refine rf_G.bcn rfl (fun _ => ?_) (fun z => absurd z (c4))
          refine rf_G.step (pc' := 200) (st' := [_]) rfl rfl ?_
          refine rf_G.step (pc' := 202) (st' := [_, _]) rfl rfl ?_
          refine rf_G.step (pc' := 203) (st' := [_]) rfl rfl ?_
          refine rf_G.step (pc' := 204) (st' := [_, _]) rfl rfl ?_
          refine rf_G.step (pc' := 206) (st' := [_, _, _]) rfl rfl ?_
          refine rf_G.v1I H rfl (by decide) rfl ⟨Nat.le_of_ble_eq_true rfl, rfl⟩ (Nat.le_of_ble_eq_true rfl) (cl) (fun h H => ?_)
          rw [e2p]
          by_cases c5 : l < 2 * p
          · rw [if_pos c5, if_neg (by decide)]
            refine rf_G.bc rfl (jx_br_le _ _) (fun z => absurd z (nI_ge c5 (by omega))) (fun _ => ?_)
            refine rf_G.step (pc' := 213) (st' := [_]) rfl rfl ?_
            exact rf_G.ret H rfl rfl
          · rw [if_neg c5, if_pos rfl]
            refine rf_G.bc rfl (jx_br_le _ _) (fun _ => ?_) (fun z => absurd (nI_le (by omega) (by omega)) z)
            exact rc_bent_ok r R B D hB hD e2 e3 M hM eM sh l p hk hl el (by omega) w hot from_ _ _ _ _ h H
      · rw [if_pos b]
        exact ⟨rfl, rfl⟩
    refine rf_G.step (pc' := 64) (st' := [_]) rfl rfl ?_
    refine rf_G.step (pc' := 66) (st' := [_, _]) rfl rfl ?_
    refine rf_G.v1I H rfl (by decide) rfl ⟨Nat.le_of_ble_eq_true rfl, rfl⟩ (Nat.le_of_ble_eq_true rfl) (cl) (fun h H => ?_)
    refine rf_G.step (pc' := 70) (st' := [_, _]) rfl rfl ?_
    refine rf_G.step (pc' := 72) (st' := [_, _, _]) rfl rfl ?_
    refine rf_G.step (pc' := 73) (st' := [_, _]) rfl rfl ?_
    rw [e2p]
    by_cases hlt : l < 2 * p
    · refine rf_G.bc rfl (jx_br_ge _ _) (fun z => absurd z (nI_ge hlt (by omega))) (fun _ => ?_)
      refine rf_G.step (pc' := 77) (st' := [_]) rfl rfl ?_
      refine rf_G.step (pc' := 79) (st' := [_, _]) rfl rfl ?_
      refine rf_G.v1I H rfl (by decide) rfl ⟨Nat.le_of_ble_eq_true rfl, rfl⟩ (Nat.le_of_ble_eq_true rfl) (cl) (fun h H => ?_)
      refine rf_G.step (pc' := 89) (st' := [_]) rfl rfl ?_
      exact t89 l (by omega) h H
    · refine rf_G.bc rfl (jx_br_ge _ _) (fun _ => ?_) (fun z => absurd (nI_le (by omega) (by omega)) z)
      refine rf_G.step (pc' := 86) (st' := [_]) rfl rfl ?_
      refine rf_G.step (pc' := 88) (st' := [_, _]) rfl rfl ?_
      refine rf_G.step (pc' := 89) (st' := [_]) rfl rfl ?_
      rw [e2p]
      exact t89 (2 * p) (by omega) h H
  · rw [show rf_btc (R.1 0) sh l hot from_ sp = 3 from if_pos c3, if_neg (by decide)]
    refine rf_G.br rfl (jx_br_eq _ _) (fun z => ?_) (fun z => ?_)
    · refine rf_G.step (pc' := 62) (st' := [_]) rfl rfl ?_
      exact rf_G.ret H rfl rfl
    have z1 := Decidable.not_not.mp (fun y => z ((rf_o_0 _).mpr y))
    refine rf_G.step (pc' := 50) (st' := [_]) rfl rfl ?_
    refine rf_G.step (pc' := 51) (st' := [_]) rfl rfl ?_
    refine rf_G.step (pc' := 52) (st' := [_, _]) rfl rfl ?_
    refine rf_G.step (pc' := 55) (st' := [_, _, _]) rfl rfl ?_
    refine rf_G.s3 rfl (by decide) rfl (Nat.le_of_ble_eq_true rfl) (Nat.le_of_ble_eq_true rfl) (fun h => rc_inI _ _ _ h) ?_
    rw [rf_w]
    refine rf_G.brn rfl (fun z => absurd ((rf_o_0 _).mpr (fun t => c3 ⟨z1, t⟩)) z) (fun _ => ?_)
    refine rf_G.step (pc' := 62) (st' := [_]) rfl rfl ?_
    exact rf_G.ret H rfl rfl
