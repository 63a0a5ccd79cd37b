/-! the reference's heat between two levels -/
def rf_tp (t u : Int32) : Int32 := if t ≤ u then u else t
def rf_en (t u : Int32) : Int32 := if t ≤ u then t else u
def rf_ba (t u hi : Int32) : Int32 := if hi ≤ rf_tp t u then hi else rf_tp t u
def rf_bb (t u lo : Int32) : Int32 := if rf_en t u ≤ lo then lo else rf_en t u
def rf_bn (n : Int64) (t u hi lo fl : Int32) : Int64 := if rf_ba t u hi ≤ rf_bb t u lo then n else n + (rf_ba t u hi - rf_bb t u lo).toInt64 * fl.toInt64
def rf_bt (N : Nat → Int32) (s : Nat) : Nat → Int32
  | 0 => rf_lvl N s (N (2 + 24 * s + 3))
  | k + 1 => rf_bt N s k + (if N (2 + 24 * s + 1) = 1 then -(N (2 + 24 * s + (6 + 2 * k))) else N (2 + 24 * s + (6 + 2 * k)))
def rf_bw (N : Nat → Int32) (s : Nat) (hi lo : Int32) : Nat → Int64
  | 0 => 0
  | k + 1 => rf_bn (rf_bw N s hi lo k) (rf_bt N s k) (rf_bt N s (k + 1)) hi lo (N (2 + 24 * s + (7 + 2 * k)))
theorem rc_between (r : Nat) (R : rf_R) (s p : Nat) (hs : s < 12) (hp : p ≤ 8) (ep : R.1 0 (2 + 24 * s + 4) = nI p) (hi lo : Int32) : rf_C 166 r [.ref r, .int (nI s), .int hi, .int lo] R (some (.long (rf_bw (R.1 0) s hi lo p))) R := by
  have loop : ∀ (d k : Nat), k + d = p → ∀ (x8 x9 xa xb xc : Value) h, rf_At r R h → rf_G r 166 19 [.ref r, .int (nI s), .int hi, .int lo, .long (rf_bw (R.1 0) s hi lo k), .retAddr 0, .int (rf_bt (R.1 0) s k), .int (nI k), x8, x9, xa, xb, xc] [] h (some (.long (rf_bw (R.1 0) s hi lo p))) R := by
    intro d
    induction d with
    | zero =>
      intro k hk x8 x9 xa xb xc h H
      obtain rfl : k = p := by omega
      refine rf_G.step (pc' := 21) (st' := [_]) rfl rfl ?_
      refine rf_G.step (pc' := 22) (st' := [_, _]) rfl rfl ?_
      refine rf_G.step (pc' := 23) (st' := [_, _, _]) rfl rfl ?_
      refine rf_G.step (pc' := 24) (st' := [_, _, _, _]) rfl rfl ?_
      refine rf_G.v2I H rfl (by decide) rfl ⟨Nat.le_of_ble_eq_true rfl, rfl⟩ (Nat.le_of_ble_eq_true rfl) (rc_of r R s 4 hs (by decide)) (fun h H => ?_)
      rw [ep]
      refine rf_G.bc rfl (jx_br_ge _ _) (fun _ => ?_) (fun q => absurd (Int32.le_refl _) q)
      refine rf_G.step (pc' := 177) (st' := [_]) rfl rfl ?_
      exact rf_G.ret H rfl rfl
    | succ d ih =>
      intro k hk x8 x9 xa xb xc h H
      have e6 : (6 : Int32) + 2 * nI k = nI (6 + 2 * k) := by rw [rf_lit 6, rf_lit 2, pk_mul, nI_add]
      have e7 : (7 : Int32) + 2 * nI k = nI (7 + 2 * k) := by rw [rf_lit 7, rf_lit 2, pk_mul, nI_add]
      generalize hn : rf_bw (R.1 0) s hi lo k = n
      generalize ht : rf_bt (R.1 0) s k = t
      generalize hu : rf_bt (R.1 0) s (k + 1) = u
      have hw : rf_bw (R.1 0) s hi lo (k + 1) = rf_bn n t u hi lo (R.1 0 (2 + 24 * s + (7 + 2 * k))) := by rw [← hn, ← ht, ← hu]; rfl
      have nx := fun x8 x9 xa xb xc => ih (k + 1) (by omega) x8 x9 xa xb xc
      rw [hw, hu, ← nI_1] at nx
      have t165 : ∀ (n2 : Int64) (x9 xa xb xc : Value) h, n2 = rf_bn n t u hi lo (R.1 0 (2 + 24 * s + (7 + 2 * k))) → rf_At r R h → rf_G r 166 165 [.ref r, .int (nI s), .int hi, .int lo, .long n2, .retAddr 0, .int t, .int (nI k), .int u, x9, xa, xb, xc] [] h (some (.long (rf_bw (R.1 0) s hi lo p))) R := by
        intro n2 x9 xa xb xc h e H
        subst e
        refine rf_G.step (pc' := 167) (st' := [_]) rfl rfl ?_
        refine rf_G.step (pc' := 169) (ls' := [_, _, _, _, _, _, _, _, _, _, _, _, _]) (st' := []) rfl rfl ?_
        refine rf_G.step (pc' := 172) (ls' := [_, _, _, _, _, _, _, _, _, _, _, _, _]) (st' := []) rfl rfl ?_
        refine rf_G.step (pc' := 19) (st' := []) rfl rfl ?_
        exact nx _ _ _ _ _ h H
      have t133 : ∀ (x9 xa : Value) h, rf_At r R h → rf_G r 166 133 [.ref r, .int (nI s), .int hi, .int lo, .long n, .retAddr 0, .int t, .int (nI k), .int u, x9, xa, .int (rf_ba t u hi), .int (rf_bb t u lo)] [] h (some (.long (rf_bw (R.1 0) s hi lo p))) R := by
        intro x9 xa h H
        refine rf_G.step (pc' := 135) (st' := [_]) rfl rfl ?_
        refine rf_G.step (pc' := 137) (st' := [_, _]) rfl rfl ?_
        refine rf_G.bc rfl (jx_br_le _ _) (fun q => ?_) (fun q => ?_)
        · exact t165 n _ _ _ _ h (by unfold rf_bn; rw [if_pos q]) H
        · refine rf_G.step (pc' := 142) (st' := [_]) rfl rfl ?_
          refine rf_G.step (pc' := 144) (st' := [_, _]) rfl rfl ?_
          refine rf_G.step (pc' := 146) (st' := [_, _, _]) rfl rfl ?_
          refine rf_G.step (pc' := 147) (st' := [_, _]) rfl rfl ?_
          refine rf_G.step (pc' := 148) (st' := [_, _]) rfl rfl ?_
          refine rf_G.step (pc' := 149) (st' := [_, _, _]) rfl rfl ?_
          refine rf_G.step (pc' := 150) (st' := [_, _, _, _]) rfl rfl ?_
          refine rf_G.step (pc' := 152) (st' := [_, _, _, _, _]) rfl rfl ?_
          refine rf_G.step (pc' := 153) (st' := [_, _, _, _, _, _]) rfl rfl ?_
          refine rf_G.step (pc' := 155) (st' := [_, _, _, _, _, _, _]) rfl rfl ?_
          refine rf_G.step (pc' := 156) (st' := [_, _, _, _, _, _]) rfl rfl ?_
          refine rf_G.step (pc' := 157) (st' := [_, _, _, _, _]) rfl rfl ?_
          rw [e7]
          refine rf_G.v2I H rfl (by decide) rfl ⟨Nat.le_of_ble_eq_true rfl, rfl⟩ (Nat.le_of_ble_eq_true rfl) (rc_of r R s (7 + 2 * k) hs (by omega)) (fun h H => ?_)
          refine rf_G.step (pc' := 161) (st' := [_, _, _]) rfl rfl ?_
          refine rf_G.step (pc' := 162) (st' := [_, _]) rfl rfl ?_
          refine rf_G.step (pc' := 163) (st' := [_]) rfl rfl ?_
          refine rf_G.step (pc' := 165) (ls' := [_, _, _, _, _, _, _, _, _, _, _, _, _]) (st' := []) rfl rfl ?_
          exact t165 _ _ _ _ _ h (by unfold rf_bn; rw [if_neg q]) H
      have t105 : ∀ (xb xc : Value) h, rf_At r R h → rf_G r 166 105 [.ref r, .int (nI s), .int hi, .int lo, .long n, .retAddr 0, .int t, .int (nI k), .int u, .int (rf_tp t u), .int (rf_en t u), xb, xc] [] h (some (.long (rf_bw (R.1 0) s hi lo p))) R := by
        intro xb xc h H
        have t119 : ∀ (xc : Value) h, rf_At r R h → rf_G r 166 119 [.ref r, .int (nI s), .int hi, .int lo, .long n, .retAddr 0, .int t, .int (nI k), .int u, .int (rf_tp t u), .int (rf_en t u), .int (rf_ba t u hi), xc] [] h (some (.long (rf_bw (R.1 0) s hi lo p))) R := by
          intro xc h H
          refine rf_G.step (pc' := 121) (st' := [_]) rfl rfl ?_
          refine rf_G.step (pc' := 122) (st' := [_, _]) rfl rfl ?_
          refine rf_G.bc rfl (jx_br_le _ _) (fun q => ?_) (fun q => ?_)
          · refine rf_G.step (pc' := 131) (st' := [_]) rfl rfl ?_
            refine rf_G.step (pc' := 133) (ls' := [_, _, _, _, _, _, _, _, _, _, _, _, _]) (st' := []) rfl rfl ?_
            have tt := t133 (.int (rf_tp t u)) (.int (rf_en t u)) h H
            rw [show rf_bb t u lo = lo by unfold rf_bb; rw [if_pos q]] at tt
            exact tt
          · refine rf_G.step (pc' := 127) (st' := [_]) rfl rfl ?_
            refine rf_G.step (pc' := 131) (st' := [_]) rfl rfl ?_
            refine rf_G.step (pc' := 133) (ls' := [_, _, _, _, _, _, _, _, _, _, _, _, _]) (st' := []) rfl rfl ?_
            have tt := t133 (.int (rf_tp t u)) (.int (rf_en t u)) h H
            rw [show rf_bb t u lo = rf_en t u by unfold rf_bb; rw [if_neg q]] at tt
            exact tt
        refine rf_G.step (pc' := 107) (st' := [_]) rfl rfl ?_
        refine rf_G.step (pc' := 108) (st' := [_, _]) rfl rfl ?_
        refine rf_G.bc rfl (jx_br_ge _ _) (fun q => ?_) (fun q => ?_)
        · refine rf_G.step (pc' := 117) (st' := [_]) rfl rfl ?_
          refine rf_G.step (pc' := 119) (ls' := [_, _, _, _, _, _, _, _, _, _, _, _, _]) (st' := []) rfl rfl ?_
          have tt := t119 xc h H
          rw [show rf_ba t u hi = hi by unfold rf_ba; rw [if_pos q]] at tt
          exact tt
        · refine rf_G.step (pc' := 113) (st' := [_]) rfl rfl ?_
          refine rf_G.step (pc' := 117) (st' := [_]) rfl rfl ?_
          refine rf_G.step (pc' := 119) (ls' := [_, _, _, _, _, _, _, _, _, _, _, _, _]) (st' := []) rfl rfl ?_
          have tt := t119 xc h H
          rw [show rf_ba t u hi = rf_tp t u by unfold rf_ba; rw [if_neg q]] at tt
          exact tt
      have t73 : ∀ (x9 xa xb xc : Value) h, rf_At r R h → rf_G r 166 73 [.ref r, .int (nI s), .int hi, .int lo, .long n, .retAddr 0, .int t, .int (nI k), .int u, x9, xa, xb, xc] [] h (some (.long (rf_bw (R.1 0) s hi lo p))) R := by
        intro x9 xa xb xc h H
        have tt := t105 xb xc h H
        refine rf_G.step (pc' := 75) (st' := [_]) rfl rfl ?_
        refine rf_G.step (pc' := 77) (st' := [_, _]) rfl rfl ?_
        refine rf_G.bc rfl (jx_br_le _ _) (fun q => ?_) (fun q => ?_)
        · rw [show rf_tp t u = u by unfold rf_tp; rw [if_pos q], show rf_en t u = t by unfold rf_en; rw [if_pos q]] at tt
          refine rf_G.step (pc' := 87) (st' := [_]) rfl rfl ?_
          refine rf_G.step (pc' := 89) (ls' := [_, _, _, _, _, _, _, _, _, _, _, _, _]) (st' := []) rfl rfl ?_
          refine rf_G.step (pc' := 91) (st' := [_]) rfl rfl ?_
          refine rf_G.step (pc' := 93) (st' := [_, _]) rfl rfl ?_
          refine rf_G.bc rfl (jx_br_le _ _) (fun _ => ?_) (fun z => absurd q z)
          refine rf_G.step (pc' := 103) (st' := [_]) rfl rfl ?_
          refine rf_G.step (pc' := 105) (ls' := [_, _, _, _, _, _, _, _, _, _, _, _, _]) (st' := []) rfl rfl ?_
          exact tt
        · rw [show rf_tp t u = t by unfold rf_tp; rw [if_neg q], show rf_en t u = u by unfold rf_en; rw [if_neg q]] at tt
          refine rf_G.step (pc' := 82) (st' := [_]) rfl rfl ?_
          refine rf_G.step (pc' := 87) (st' := [_]) rfl rfl ?_
          refine rf_G.step (pc' := 89) (ls' := [_, _, _, _, _, _, _, _, _, _, _, _, _]) (st' := []) rfl rfl ?_
          refine rf_G.step (pc' := 91) (st' := [_]) rfl rfl ?_
          refine rf_G.step (pc' := 93) (st' := [_, _]) rfl rfl ?_
          refine rf_G.bc rfl (jx_br_le _ _) (fun z => absurd z q) (fun _ => ?_)
          refine rf_G.step (pc' := 98) (st' := [_]) rfl rfl ?_
          refine rf_G.step (pc' := 103) (st' := [_]) rfl rfl ?_
          refine rf_G.step (pc' := 105) (ls' := [_, _, _, _, _, _, _, _, _, _, _, _, _]) (st' := []) rfl rfl ?_
          exact tt
      refine rf_G.step (pc' := 21) (st' := [_]) rfl rfl ?_
      refine rf_G.step (pc' := 22) (st' := [_, _]) rfl rfl ?_
      refine rf_G.step (pc' := 23) (st' := [_, _, _]) rfl rfl ?_
      refine rf_G.step (pc' := 24) (st' := [_, _, _, _]) rfl rfl ?_
      refine rf_G.v2I H rfl (by decide) rfl ⟨Nat.le_of_ble_eq_true rfl, rfl⟩ (Nat.le_of_ble_eq_true rfl) (rc_of r R s 4 hs (by decide)) (fun h H => ?_)
      rw [ep]
      refine rf_G.bc rfl (jx_br_ge _ _) (fun q => absurd q (nI_ge (by omega) (by omega))) (fun _ => ?_)
      refine rf_G.step (pc' := 32) (st' := [_]) rfl rfl ?_
      refine rf_G.step (pc' := 33) (st' := [_, _]) rfl rfl ?_
      refine rf_G.step (pc' := 34) (st' := [_, _, _]) rfl rfl ?_
      refine rf_G.step (pc' := 35) (st' := [_, _, _, _]) rfl rfl ?_
      refine rf_G.v2I H rfl (by decide) rfl ⟨Nat.le_of_ble_eq_true rfl, rfl⟩ (Nat.le_of_ble_eq_true rfl) (rc_of r R s 1 hs (by decide)) (fun h H => ?_)
      refine rf_G.step (pc' := 39) (st' := [_, _, _]) rfl rfl ?_
      have hu2 : u = t + (if R.1 0 (2 + 24 * s + 1) = 1 then -(R.1 0 (2 + 24 * s + (6 + 2 * k))) else R.1 0 (2 + 24 * s + (6 + 2 * k))) := by rw [← hu, ← ht]; rfl
      refine rf_G.bcn rfl (fun q => ?_) (fun q => ?_)
      · rw [if_neg q] at hu2
        refine rf_G.step (pc' := 59) (st' := [_, _]) rfl rfl ?_
        refine rf_G.step (pc' := 60) (st' := [_, _, _]) rfl rfl ?_
        refine rf_G.step (pc' := 62) (st' := [_, _, _, _]) rfl rfl ?_
        refine rf_G.step (pc' := 63) (st' := [_, _, _, _, _]) rfl rfl ?_
        refine rf_G.step (pc' := 65) (st' := [_, _, _, _, _, _]) rfl rfl ?_
        refine rf_G.step (pc' := 66) (st' := [_, _, _, _, _]) rfl rfl ?_
        refine rf_G.step (pc' := 67) (st' := [_, _, _, _]) rfl rfl ?_
        rw [e6]
        refine rf_G.v2I H rfl (by decide) rfl ⟨Nat.le_of_ble_eq_true rfl, rfl⟩ (Nat.le_of_ble_eq_true rfl) (rc_of r R s (6 + 2 * k) hs (by omega)) (fun h H => ?_)
        refine rf_G.step (pc' := 71) (st' := [_]) rfl rfl ?_
        refine rf_G.step (pc' := 73) (ls' := [_, _, _, _, _, _, _, _, _, _, _, _, _]) (st' := []) rfl rfl ?_
        have tt := t73 x9 xa xb xc h H
        rw [hu2] at tt
        exact tt
      · rw [if_pos q] at hu2
        refine rf_G.step (pc' := 43) (st' := [_, _]) rfl rfl ?_
        refine rf_G.step (pc' := 44) (st' := [_, _, _]) rfl rfl ?_
        refine rf_G.step (pc' := 46) (st' := [_, _, _, _]) rfl rfl ?_
        refine rf_G.step (pc' := 47) (st' := [_, _, _, _, _]) rfl rfl ?_
        refine rf_G.step (pc' := 49) (st' := [_, _, _, _, _, _]) rfl rfl ?_
        refine rf_G.step (pc' := 50) (st' := [_, _, _, _, _]) rfl rfl ?_
        refine rf_G.step (pc' := 51) (st' := [_, _, _, _]) rfl rfl ?_
        rw [e6]
        refine rf_G.v2I H rfl (by decide) rfl ⟨Nat.le_of_ble_eq_true rfl, rfl⟩ (Nat.le_of_ble_eq_true rfl) (rc_of r R s (6 + 2 * k) hs (by omega)) (fun h H => ?_)
        refine rf_G.step (pc' := 55) (st' := [_, _]) rfl rfl ?_
        refine rf_G.step (pc' := 70) (st' := [_, _]) rfl rfl ?_
        refine rf_G.step (pc' := 71) (st' := [_]) rfl rfl ?_
        refine rf_G.step (pc' := 73) (ls' := [_, _, _, _, _, _, _, _, _, _, _, _, _]) (st' := []) rfl rfl ?_
        have tt := t73 x9 xa xb xc h H
        rw [hu2] at tt
        exact tt
  intro h H
  show rf_G r 166 0 [.ref r, .int (nI s), .int hi, .int lo, .retAddr 0, .retAddr 0, .retAddr 0, .retAddr 0, .retAddr 0, .retAddr 0, .retAddr 0, .retAddr 0, .retAddr 0] [] h _ _
  have cl := rc_levelAt r R s hs (R.1 0 (2 + 24 * s + 3))
  refine rf_G.step (pc' := 1) (st' := [_]) rfl rfl ?_
  refine rf_G.step (pc' := 3) (ls' := [_, _, _, _, _, _, _, _, _, _, _, _, _]) (st' := []) rfl rfl ?_
  refine rf_G.step (pc' := 4) (st' := [_]) rfl rfl ?_
  refine rf_G.step (pc' := 5) (st' := [_, _]) rfl rfl ?_
  refine rf_G.step (pc' := 6) (st' := [_, _, _]) rfl rfl ?_
  refine rf_G.step (pc' := 7) (st' := [_, _, _, _]) rfl rfl ?_
  refine rf_G.step (pc' := 8) (st' := [_, _, _, _, _]) rfl rfl ?_
  refine rf_G.v2I H rfl (by decide) rfl ⟨Nat.le_of_ble_eq_true rfl, rfl⟩ (Nat.le_of_ble_eq_true rfl) (rc_of r R s 3 hs (by decide)) (fun h H => ?_)
  refine rf_G.v2I H rfl (by decide) rfl ⟨Nat.le_of_ble_eq_true rfl, rfl⟩ (Nat.le_of_ble_eq_true rfl) (cl) (fun h H => ?_)
  refine rf_G.step (pc' := 16) (ls' := [_, _, _, _, _, _, _, _, _, _, _, _, _]) (st' := []) rfl rfl ?_
  refine rf_G.step (pc' := 17) (st' := [_]) rfl rfl ?_
  refine rf_G.step (pc' := 19) (ls' := [_, _, _, _, _, _, _, _, _, _, _, _, _]) (st' := []) rfl rfl ?_
  exact loop p 0 (by omega) _ _ _ _ _ h H
