/-! the reference: place -/
theorem rf_nsub {a b : Nat} (h : b ≤ a) : nI a - nI b = nI (a - b) := by
  obtain ⟨c, rfl⟩ : ∃ c, a = c + b := ⟨a - b, by omega⟩
  rw [← nI_add, Nat.add_sub_cancel]
  exact Int32.add_sub_cancel _ _
def rf_set4 (R : rf_R) (q : Int64 × Int64 × Int64 × Int64) : rf_R := rf_sL (rf_sL (rf_sL (rf_sL R 13 q.1) 14 q.2.1) 15 q.2.2.1) 16 q.2.2.2
theorem rf_set4_2 (R : rf_R) (q p : Int64 × Int64 × Int64 × Int64) : rf_set4 (rf_set4 R q) p = rf_set4 R p := by
  refine Prod.ext rfl (Prod.ext rfl (Prod.ext rfl ?_))
  funext k
  show (if k = 16 then _ else if k = 15 then _ else if k = 14 then _ else if k = 13 then _ else if k = 16 then _ else if k = 15 then _ else if k = 14 then _ else if k = 13 then _ else _) = (if k = 16 then _ else if k = 15 then _ else if k = 14 then _ else if k = 13 then _ else _)
  by_cases h1 : k = 16
  · simp only [if_pos h1]
  by_cases h2 : k = 15
  · simp only [if_neg h1, if_pos h2]
  by_cases h3 : k = 14
  · simp only [if_neg h1, if_neg h2, if_pos h3]
  by_cases h4 : k = 13
  · simp only [if_neg h1, if_neg h2, if_neg h3, if_pos h4]
  simp only [if_neg h1, if_neg h2, if_neg h3, if_neg h4]
def pl_k (N : Nat → Int32) (s n i : Nat) : Nat := if N (2 + 24 * s + 1) = 1 then i else n - 1 - i
def pl_d (N : Nat → Int32) (s k : Nat) : Int64 := (N (2 + 24 * s + (6 + 2 * k))).toInt64
def pl_f (N : Nat → Int32) (s k : Nat) : Int64 := (N (2 + 24 * s + (7 + 2 * k))).toInt64
def pl_df (N : Nat → Int32) (s : Nat) : Int64 × Int64 × Int64 × Int64 := ((N (2 + 24 * s + 3)).toInt64, 0, 1, 1099511627776)
def pl_lp (N : Nat → Int32) (s n : Nat) : Nat → Nat → Int64 → Int64 → Int64 × Int64 × Int64 × Int64
  | 0, _, _, _ => pl_df N s
  | d + 1, i, t, left => if left < pl_d N s (pl_k N s n i) * pl_f N s (pl_k N s n i) ∨ i = n - 1 then (t, left, pl_f N s (pl_k N s n i), pl_d N s (pl_k N s n i) * pl_f N s (pl_k N s n i) - left) else pl_lp N s n d (i + 1) (t - pl_d N s (pl_k N s n i)) (left - pl_d N s (pl_k N s n i) * pl_f N s (pl_k N s n i))
def pl_top (N : Nat → Int32) (s : Nat) : Int64 := if N (2 + 24 * s + 1) = 1 then (N (2 + 24 * s + 3)).toInt64 else (rf_end N s (rf_sp N s)).toInt64
def pl_at (N : Nat → Int32) (s : Nat) (heat : Int64) : Int64 × Int64 × Int64 × Int64 := if N (2 + 24 * s) = 1 then pl_df N s else pl_lp N s (rf_sp N s) (rf_sp N s) 0 (pl_top N s) heat
theorem pl_loop (r : Nat) (R : rf_R) (s n : Nat) (hs : s < 12) (hn : n ≤ 8) (heat : Int64) (hot : Int32) (hh : hot = if R.1 0 (2 + 24 * s + 1) = 1 then 1 else 0) : ∀ d i (t left : Int64) (u11 u12 u13 u14 u15 : Value), i + d = n → ∀ h, rf_At r (rf_set4 R (pl_df (R.1 0) s)) h → rf_G r 185 93 [.ref r, .int (nI s), .long heat, .retAddr 0, .int hot, .long t, .retAddr 0, .long left, .retAddr 0, .int (nI n), .int (nI i), u11, u12, u13, u14, u15] [] h none (rf_set4 R (pl_lp (R.1 0) s n d i t left)) := by
  intro d
  induction d with
  | zero =>
    intro i t left u11 u12 u13 u14 u15 hi h H
    obtain rfl : i = n := by omega
    refine rf_G.step (pc' := 95) (st' := [_]) rfl rfl ?_
    refine rf_G.step (pc' := 97) (st' := [_, _]) rfl rfl ?_
    refine rf_G.bc rfl (jx_br_ge _ _) (fun _ => ?_) (fun z => absurd (Int32.le_refl _) z)
    exact rf_G.ret H rfl rfl
  | succ d ih =>
    intro i t left u11 u12 u13 u14 u15 hi h H
    have hk : pl_k (R.1 0) s n i ≤ 7 := by
      unfold pl_k
      split <;> omega
    generalize ek : pl_k (R.1 0) s n i = k at hk
    have cd := rc_of r (rf_set4 R (pl_df (R.1 0) s)) s (6 + 2 * k) hs (by omega)
    have cf := rc_of r (rf_set4 R (pl_df (R.1 0) s)) s (7 + 2 * k) hs (by omega)
    have e6 : (6 : Int32) + 2 * nI k = nI (6 + 2 * k) := by rw [rf_lit 6, rf_lit 2, pk_mul, nI_add]
    have e7 : (7 : Int32) + 2 * nI k = nI (7 + 2 * k) := by rw [rf_lit 7, rf_lit 2, pk_mul, nI_add]
    have en : nI n - 1 = nI (n - 1) := by
      obtain ⟨j, rfl⟩ : ∃ j, n = j + 1 := ⟨n - 1, by omega⟩
      rw [nI_pred]; rfl
    unfold pl_lp
    rw [ek]
    have nx := ih (i + 1) (t - pl_d (R.1 0) s k) (left - pl_d (R.1 0) s k * pl_f (R.1 0) s k)
    have t169 : ∀ h, rf_At r (rf_set4 R (pl_df (R.1 0) s)) h → rf_G r 185 169 [.ref r, .int (nI s), .long heat, .retAddr 0, .int hot, .long t, .retAddr 0, .long left, .retAddr 0, .int (nI n), .int (nI i), .int (nI k), .long (pl_d (R.1 0) s k), .retAddr 0, .long (pl_f (R.1 0) s k), .retAddr 0] [] h none (rf_set4 R (t, left, pl_f (R.1 0) s k, pl_d (R.1 0) s k * pl_f (R.1 0) s k - left)) := by
      intro h H
      rw [← rf_set4_2 R (pl_df (R.1 0) s)]
      refine rf_G.step (pc' := 170) (st' := [_]) rfl rfl ?_
      refine rf_G.step (pc' := 172) (st' := [_, _]) rfl rfl ?_
      refine rf_G.putL H rfl rfl (by decide) rfl (fun h H => ?_)
      refine rf_G.step (pc' := 176) (st' := [_]) rfl rfl ?_
      refine rf_G.step (pc' := 178) (st' := [_, _]) rfl rfl ?_
      refine rf_G.putL H rfl rfl (by decide) rfl (fun h H => ?_)
      refine rf_G.step (pc' := 182) (st' := [_]) rfl rfl ?_
      refine rf_G.step (pc' := 184) (st' := [_, _]) rfl rfl ?_
      refine rf_G.putL H rfl rfl (by decide) rfl (fun h H => ?_)
      refine rf_G.step (pc' := 188) (st' := [_]) rfl rfl ?_
      refine rf_G.step (pc' := 190) (st' := [_, _]) rfl rfl ?_
      refine rf_G.step (pc' := 192) (st' := [_, _, _]) rfl rfl ?_
      refine rf_G.step (pc' := 193) (st' := [_, _]) rfl rfl ?_
      refine rf_G.step (pc' := 195) (st' := [_, _, _]) rfl rfl ?_
      refine rf_G.step (pc' := 196) (st' := [_, _]) rfl rfl ?_
      refine rf_G.putL H rfl rfl (by decide) rfl (fun h H => ?_)
      exact rf_G.ret H rfl rfl
    have t117 : ∀ h, rf_At r (rf_set4 R (pl_df (R.1 0) s)) h → rf_G r 185 117 [.ref r, .int (nI s), .long heat, .retAddr 0, .int hot, .long t, .retAddr 0, .long left, .retAddr 0, .int (nI n), .int (nI i), u11, u12, u13, u14, u15] [.int (nI k)] h none (rf_set4 R (if left < pl_d (R.1 0) s k * pl_f (R.1 0) s k ∨ i = n - 1 then (t, left, pl_f (R.1 0) s k, pl_d (R.1 0) s k * pl_f (R.1 0) s k - left) else pl_lp (R.1 0) s n d (i + 1) (t - pl_d (R.1 0) s k) (left - pl_d (R.1 0) s k * pl_f (R.1 0) s k))) := by
      intro h H
      refine rf_G.step (pc' := 119) (ls' := [_, _, _, _, _, _, _, _, _, _, _, _, _, _, _, _]) (st' := []) rfl rfl ?_
      refine rf_G.step (pc' := 120) (st' := [_]) rfl rfl ?_
      refine rf_G.step (pc' := 121) (st' := [_, _]) rfl rfl ?_
      refine rf_G.step (pc' := 123) (st' := [_, _, _]) rfl rfl ?_
      refine rf_G.step (pc' := 124) (st' := [_, _, _, _]) rfl rfl ?_
      refine rf_G.step (pc' := 126) (st' := [_, _, _, _, _]) rfl rfl ?_
      refine rf_G.step (pc' := 127) (st' := [_, _, _, _]) rfl rfl ?_
      refine rf_G.step (pc' := 128) (st' := [_, _, _]) rfl rfl ?_
      rw [e6]
      refine rf_G.v2I H rfl (by decide) rfl ⟨Nat.le_of_ble_eq_true rfl, rfl⟩ (Nat.le_of_ble_eq_true rfl) (cd) (fun h H => ?_)
      refine rf_G.step (pc' := 132) (st' := [_]) rfl rfl ?_
      refine rf_G.step (pc' := 134) (ls' := [_, _, _, _, _, _, _, _, _, _, _, _, _, _, _, _]) (st' := []) rfl rfl ?_
      refine rf_G.step (pc' := 135) (st' := [_]) rfl rfl ?_
      refine rf_G.step (pc' := 136) (st' := [_, _]) rfl rfl ?_
      refine rf_G.step (pc' := 138) (st' := [_, _, _]) rfl rfl ?_
      refine rf_G.step (pc' := 139) (st' := [_, _, _, _]) rfl rfl ?_
      refine rf_G.step (pc' := 141) (st' := [_, _, _, _, _]) rfl rfl ?_
      refine rf_G.step (pc' := 142) (st' := [_, _, _, _]) rfl rfl ?_
      refine rf_G.step (pc' := 143) (st' := [_, _, _]) rfl rfl ?_
      rw [e7]
      refine rf_G.v2I H rfl (by decide) rfl ⟨Nat.le_of_ble_eq_true rfl, rfl⟩ (Nat.le_of_ble_eq_true rfl) (cf) (fun h H => ?_)
      refine rf_G.step (pc' := 147) (st' := [_]) rfl rfl ?_
      refine rf_G.step (pc' := 149) (ls' := [_, _, _, _, _, _, _, _, _, _, _, _, _, _, _, _]) (st' := []) rfl rfl ?_
      refine rf_G.step (pc' := 151) (st' := [_]) rfl rfl ?_
      refine rf_G.step (pc' := 153) (st' := [_, _]) rfl rfl ?_
      refine rf_G.step (pc' := 155) (st' := [_, _, _]) rfl rfl ?_
      refine rf_G.step (pc' := 156) (st' := [_, _]) rfl rfl ?_
      refine rf_G.step (pc' := 157) (st' := [_]) rfl rfl ?_
      by_cases c1 : left < pl_d (R.1 0) s k * pl_f (R.1 0) s k
      · rw [if_pos (Or.inl c1)]
        refine rf_G.br rfl (jx_br_lt _ _) (fun _ => ?_) (fun z => absurd ((lg_cmp_lt0 _ _).mpr c1) z)
        exact t169 h H
      · refine rf_G.br rfl (jx_br_lt _ _) (fun z => absurd z (fun q => c1 ((lg_cmp_lt0 _ _).mp q))) (fun _ => ?_)
        refine rf_G.step (pc' := 162) (st' := [_]) rfl rfl ?_
        refine rf_G.step (pc' := 164) (st' := [_, _]) rfl rfl ?_
        refine rf_G.step (pc' := 165) (st' := [_, _, _]) rfl rfl ?_
        refine rf_G.step (pc' := 166) (st' := [_, _]) rfl rfl ?_
        rw [en]
        by_cases c2 : i = n - 1
        · rw [if_pos (Or.inr c2)]
          refine rf_G.bcn rfl (fun z => absurd (congrArg nI c2) z) (fun _ => ?_)
          exact t169 h H
        · rw [if_neg (fun q => q.elim c1 c2)]
          refine rf_G.bcn rfl (fun _ => ?_) (fun z => absurd z (fun q => c2 ((nI_inj (by omega) (by omega)).mp q)))
          refine rf_G.step (pc' := 202) (st' := [_]) rfl rfl ?_
          refine rf_G.step (pc' := 204) (st' := [_, _]) rfl rfl ?_
          refine rf_G.step (pc' := 206) (st' := [_, _, _]) rfl rfl ?_
          refine rf_G.step (pc' := 207) (st' := [_, _]) rfl rfl ?_
          refine rf_G.step (pc' := 208) (st' := [_]) rfl rfl ?_
          refine rf_G.step (pc' := 210) (ls' := [_, _, _, _, _, _, _, _, _, _, _, _, _, _, _, _]) (st' := []) rfl rfl ?_
          refine rf_G.step (pc' := 212) (st' := [_]) rfl rfl ?_
          refine rf_G.step (pc' := 214) (st' := [_, _]) rfl rfl ?_
          refine rf_G.step (pc' := 215) (st' := [_]) rfl rfl ?_
          refine rf_G.step (pc' := 217) (ls' := [_, _, _, _, _, _, _, _, _, _, _, _, _, _, _, _]) (st' := []) rfl rfl ?_
          refine rf_G.step (pc' := 220) (ls' := [_, _, _, _, _, _, _, _, _, _, _, _, _, _, _, _]) (st' := []) rfl rfl ?_
          refine rf_G.step (pc' := 93) (st' := []) rfl rfl ?_
          rw [nI_1]
          exact nx _ _ _ _ _ (by omega) h H
    refine rf_G.step (pc' := 95) (st' := [_]) rfl rfl ?_
    refine rf_G.step (pc' := 97) (st' := [_, _]) rfl rfl ?_
    refine rf_G.bc rfl (jx_br_ge _ _) (fun z => absurd z (nI_ge (by omega) (by omega))) (fun _ => ?_)
    refine rf_G.step (pc' := 102) (st' := [_]) rfl rfl ?_
    by_cases hh2 : R.1 0 (2 + 24 * s + 1) = 1
    · rw [if_pos hh2] at hh
      refine rf_G.br rfl (jx_br_eq _ _) (fun z => absurd z (by rw [hh]; decide)) (fun _ => ?_)
      refine rf_G.step (pc' := 107) (st' := [_]) rfl rfl ?_
      refine rf_G.step (pc' := 117) (st' := [_]) rfl rfl ?_
      have : i = k := by
        rw [← ek]
        unfold pl_k
        rw [if_pos hh2]
      rw [this] at t117 ⊢
      exact t117 h H
    · rw [if_neg hh2] at hh
      refine rf_G.br rfl (jx_br_eq _ _) (fun _ => ?_) (fun z => absurd (hh) z)
      refine rf_G.step (pc' := 112) (st' := [_]) rfl rfl ?_
      refine rf_G.step (pc' := 113) (st' := [_, _]) rfl rfl ?_
      refine rf_G.step (pc' := 114) (st' := [_]) rfl rfl ?_
      refine rf_G.step (pc' := 116) (st' := [_, _]) rfl rfl ?_
      refine rf_G.step (pc' := 117) (st' := [_]) rfl rfl ?_
      have : n - 1 - i = k := by
        rw [← ek]
        unfold pl_k
        rw [if_neg hh2]
      rw [en, rf_nsub (by omega), this]
      exact t117 h H
theorem rc_place (r : Nat) (R : rf_R) (s : Nat) (hs : s < 12) (hp : rf_sp (R.1 0) s ≤ 8) (ep : R.1 0 (2 + 24 * s + 4) = nI (rf_sp (R.1 0) s)) (heat : Int64) : rf_C 185 r [.ref r, .int (nI s), .long heat] R none (rf_set4 R (pl_at (R.1 0) s heat)) := by
  have lp := pl_loop r R s (rf_sp (R.1 0) s) hs hp heat
  intro h H
  show rf_G r 185 0 [.ref r, .int (nI s), .long heat, .retAddr 0, .retAddr 0, .retAddr 0, .retAddr 0, .retAddr 0, .retAddr 0, .retAddr 0, .retAddr 0, .retAddr 0, .retAddr 0, .retAddr 0, .retAddr 0, .retAddr 0] [] h _ _
  unfold pl_at
  refine rf_G.step (pc' := 1) (st' := [_]) rfl rfl ?_
  refine rf_G.step (pc' := 2) (st' := [_, _]) rfl rfl ?_
  refine rf_G.step (pc' := 3) (st' := [_, _, _]) rfl rfl ?_
  refine rf_G.step (pc' := 4) (st' := [_, _, _, _]) rfl rfl ?_
  refine rf_G.v2I H rfl (by decide) rfl ⟨Nat.le_of_ble_eq_true rfl, rfl⟩ (Nat.le_of_ble_eq_true rfl) (rc_of r R s 3 hs (by decide)) (fun h H => ?_)
  refine rf_G.step (pc' := 8) (st' := [_, _]) rfl rfl ?_
  refine rf_G.putL H rfl rfl (by decide) rfl (fun h H => ?_)
  refine rf_G.step (pc' := 12) (st' := [_]) rfl rfl ?_
  refine rf_G.step (pc' := 13) (st' := [_, _]) rfl rfl ?_
  refine rf_G.putL H rfl rfl (by decide) rfl (fun h H => ?_)
  refine rf_G.step (pc' := 17) (st' := [_]) rfl rfl ?_
  refine rf_G.step (pc' := 18) (st' := [_, _]) rfl rfl ?_
  refine rf_G.putL H rfl rfl (by decide) rfl (fun h H => ?_)
  refine rf_G.step (pc' := 22) (st' := [_]) rfl rfl ?_
  refine rf_G.step (pc' := 25) (st' := [_, _]) rfl rfl ?_
  refine rf_G.putL H rfl rfl (by decide) rfl (fun h H => ?_)
  have H2 : rf_At r (rf_set4 R (pl_df (R.1 0) s)) h := H
  clear H
  have H := H2
  have c0 := rc_of r (rf_set4 R (pl_df (R.1 0) s)) s 0 hs (by decide)
  have c1 := rc_of r (rf_set4 R (pl_df (R.1 0) s)) s 1 hs (by decide)
  have c3 := rc_of r (rf_set4 R (pl_df (R.1 0) s)) s 3 hs (by decide)
  have c4 := rc_of r (rf_set4 R (pl_df (R.1 0) s)) s 4 hs (by decide)
  have ce := rc_ends r (rf_set4 R (pl_df (R.1 0) s)) s (rf_sp (R.1 0) s) hs hp ep
  rw [show (rf_set4 R (pl_df (R.1 0) s)).1 0 = R.1 0 from rfl] at c0 c1 c3 c4 ce
  rw [Nat.add_zero] at c0
  rw [ep] at c4
  refine rf_G.step (pc' := 29) (st' := [_]) rfl rfl ?_
  refine rf_G.step (pc' := 30) (st' := [_, _]) rfl rfl ?_
  refine rf_G.step (pc' := 31) (st' := [_, _, _]) rfl rfl ?_
  refine rf_G.v2I H rfl (by decide) rfl ⟨Nat.le_of_ble_eq_true rfl, rfl⟩ (Nat.le_of_ble_eq_true rfl) (c0) (fun h H => ?_)
  refine rf_G.step (pc' := 35) (st' := [_, _]) rfl rfl ?_
  by_cases k1 : R.1 0 (2 + 24 * s) = 1
  · rw [if_pos k1]
    refine rf_G.bcn rfl (fun z => absurd (k1) z) (fun _ => ?_)
    exact rf_G.ret H rfl rfl
  rw [if_neg k1]
  refine rf_G.bcn rfl (fun _ => ?_) (fun z => absurd z (k1))
  refine rf_G.step (pc' := 40) (st' := [_]) rfl rfl ?_
  refine rf_G.step (pc' := 41) (st' := [_, _]) rfl rfl ?_
  refine rf_G.step (pc' := 42) (st' := [_, _, _]) rfl rfl ?_
  refine rf_G.v2I H rfl (by decide) rfl ⟨Nat.le_of_ble_eq_true rfl, rfl⟩ (Nat.le_of_ble_eq_true rfl) (c1) (fun h H => ?_)
  refine rf_G.step (pc' := 46) (st' := [_, _]) rfl rfl ?_
  by_cases hh : R.1 0 (2 + 24 * s + 1) = 1
  · have et : pl_top (R.1 0) s = (R.1 0 (2 + 24 * s + 3)).toInt64 := if_pos hh
    rw [et]
    refine rf_G.bcn rfl (fun z => absurd (hh) z) (fun _ => ?_)
    refine rf_G.step (pc' := 50) (st' := [_]) rfl rfl ?_
    refine rf_G.step (pc' := 54) (st' := [_]) rfl rfl ?_
    refine rf_G.step (pc' := 56) (ls' := [_, _, _, _, _, _, _, _, _, _, _, _, _, _, _, _]) (st' := []) rfl rfl ?_
    refine rf_G.step (pc' := 58) (st' := [_]) rfl rfl ?_
    refine rf_G.br rfl (jx_br_eq _ _) (fun z => absurd z (by decide)) (fun _ => ?_)
    refine rf_G.step (pc' := 62) (st' := [_]) rfl rfl ?_
    refine rf_G.step (pc' := 63) (st' := [_, _]) rfl rfl ?_
    refine rf_G.step (pc' := 64) (st' := [_, _, _]) rfl rfl ?_
    refine rf_G.v2I H rfl (by decide) rfl ⟨Nat.le_of_ble_eq_true rfl, rfl⟩ (Nat.le_of_ble_eq_true rfl) (c3) (fun h H => ?_)
    refine rf_G.step (pc' := 68) (st' := [_]) rfl rfl ?_
    refine rf_G.step (pc' := 77) (st' := [_]) rfl rfl ?_
    refine rf_G.step (pc' := 79) (ls' := [_, _, _, _, _, _, _, _, _, _, _, _, _, _, _, _]) (st' := []) rfl rfl ?_
    refine rf_G.step (pc' := 80) (st' := [_]) rfl rfl ?_
    refine rf_G.step (pc' := 82) (ls' := [_, _, _, _, _, _, _, _, _, _, _, _, _, _, _, _]) (st' := []) rfl rfl ?_
    refine rf_G.step (pc' := 83) (st' := [_]) rfl rfl ?_
    refine rf_G.step (pc' := 84) (st' := [_, _]) rfl rfl ?_
    refine rf_G.step (pc' := 85) (st' := [_, _, _]) rfl rfl ?_
    refine rf_G.v2I H rfl (by decide) rfl ⟨Nat.le_of_ble_eq_true rfl, rfl⟩ (Nat.le_of_ble_eq_true rfl) (c4) (fun h H => ?_)
    refine rf_G.step (pc' := 90) (ls' := [_, _, _, _, _, _, _, _, _, _, _, _, _, _, _, _]) (st' := []) rfl rfl ?_
    refine rf_G.step (pc' := 91) (st' := [_]) rfl rfl ?_
    refine rf_G.step (pc' := 93) (ls' := [_, _, _, _, _, _, _, _, _, _, _, _, _, _, _, _]) (st' := []) rfl rfl ?_
    exact lp 1 (if_pos hh).symm _ 0 _ _ _ _ _ _ _ (by omega) h H
  · have et : pl_top (R.1 0) s = (rf_end (R.1 0) s (rf_sp (R.1 0) s)).toInt64 := if_neg hh
    rw [et]
    refine rf_G.bcn rfl (fun _ => ?_) (fun z => absurd z (hh))
    refine rf_G.step (pc' := 54) (st' := [_]) rfl rfl ?_
    refine rf_G.step (pc' := 56) (ls' := [_, _, _, _, _, _, _, _, _, _, _, _, _, _, _, _]) (st' := []) rfl rfl ?_
    refine rf_G.step (pc' := 58) (st' := [_]) rfl rfl ?_
    refine rf_G.br rfl (jx_br_eq _ _) (fun _ => ?_) (fun z => absurd (rfl) z)
    refine rf_G.step (pc' := 72) (st' := [_]) rfl rfl ?_
    refine rf_G.step (pc' := 73) (st' := [_, _]) rfl rfl ?_
    refine rf_G.v1I H rfl (by decide) rfl ⟨Nat.le_of_ble_eq_true rfl, rfl⟩ (Nat.le_of_ble_eq_true rfl) (ce) (fun h H => ?_)
    refine rf_G.step (pc' := 77) (st' := [_]) rfl rfl ?_
    refine rf_G.step (pc' := 79) (ls' := [_, _, _, _, _, _, _, _, _, _, _, _, _, _, _, _]) (st' := []) rfl rfl ?_
    refine rf_G.step (pc' := 80) (st' := [_]) rfl rfl ?_
    refine rf_G.step (pc' := 82) (ls' := [_, _, _, _, _, _, _, _, _, _, _, _, _, _, _, _]) (st' := []) rfl rfl ?_
    refine rf_G.step (pc' := 83) (st' := [_]) rfl rfl ?_
    refine rf_G.step (pc' := 84) (st' := [_, _]) rfl rfl ?_
    refine rf_G.step (pc' := 85) (st' := [_, _, _]) rfl rfl ?_
    refine rf_G.v2I H rfl (by decide) rfl ⟨Nat.le_of_ble_eq_true rfl, rfl⟩ (Nat.le_of_ble_eq_true rfl) (c4) (fun h H => ?_)
    refine rf_G.step (pc' := 90) (ls' := [_, _, _, _, _, _, _, _, _, _, _, _, _, _, _, _]) (st' := []) rfl rfl ?_
    refine rf_G.step (pc' := 91) (st' := [_]) rfl rfl ?_
    refine rf_G.step (pc' := 93) (ls' := [_, _, _, _, _, _, _, _, _, _, _, _, _, _, _, _]) (st' := []) rfl rfl ?_
    exact lp 0 (if_neg hh).symm _ 0 _ _ _ _ _ _ _ (by omega) h H
