/-! the works' cascade: flow, run, pinches -/
def lmin (x y : Int64) : Int64 := if y < x then y else x
def cf_su (a b : Nat → Int64) : Nat → Int64
  | 0 => 0
  | k + 1 => cf_su a b k + a k + b k
def cf_mn (a b : Nat → Int64) : Nat → Int64
  | 0 => 0
  | k + 1 => lmin (cf_mn a b k) (lmin (cf_su a b k) (cf_su a b k + a k))
/-- all but what the flow writes stays -/
def kg_f (W W2 : cw) : Prop := W2.1 = W.1 ∧ (∀ k, k ≠ 8 → k ≠ 9 → W2.2.1 k = W.2.1 k) ∧ W2.2.2.1 = W.2.2.1 ∧ (∀ k y, ¬ (k = 3 ∧ y = 5) → W2.2.2.2.1 k y = W.2.2.2.1 k y) ∧ W2.2.2.2.2 = W.2.2.2.2
theorem kg_f.rf {W : cw} : kg_f W W := ⟨rfl, fun _ _ _ => rfl, rfl, fun _ _ _ => rfl, rfl⟩
theorem kg_f.tr {W W2 W3 : cw} (a : kg_f W W2) (b : kg_f W2 W3) : kg_f W W3 := ⟨b.1.trans a.1, fun k h g => (b.2.1 k h g).trans (a.2.1 k h g), b.2.2.1.trans a.2.2.1, fun k y h => (b.2.2.2.1 k y h).trans (a.2.2.2.1 k y h), b.2.2.2.2.trans a.2.2.2.2⟩
theorem kg_f.B {W : cw} {k : Nat} {f : Nat → Int64} (h : k = 8 ∨ k = 9) : kg_f W (cw_B W k f) := ⟨rfl, fun j h1 h2 => if_neg (by omega), rfl, fun _ _ _ => rfl, rfl⟩
theorem kg_f.L {W : cw} {x : Int64} : kg_f W (cw_L W 3 5 x) := ⟨rfl, fun _ _ _ => rfl, rfl, fun k y h => if_neg h, rfl⟩
theorem kg_f.kl {W W2 : cw} {L : List Int32} (a : kg_f W W2) (h : kl_4 W L) : kl_4 W2 L := by
  unfold kl_4
  rw [a.1, a.2.2.1]
  exact h
theorem kc_flow (W : cw) (g : Nat → Option jx_E) (nx s : Nat) (L : List Int32) (kl : kl_4 W L) (hL : L.length ≤ 110) : ∃ W2, jx_T 5 0 (jx_ent 5 [.ref 3]) [] (hc W g nx s) none (hc W2 g nx s) ∧ kg_f W W2 ∧ W2.2.2.2.1 3 5 = -(cf_mn (W.2.1 6) (W.2.1 7) L.length) ∧ ∀ k, k < L.length → W2.2.1 8 k = cf_su (W.2.1 6) (W.2.1 7) k + -(cf_mn (W.2.1 6) (W.2.1 7) L.length) ∧ W2.2.1 9 k = cf_su (W.2.1 6) (W.2.1 7) k + W.2.1 6 k + -(cf_mn (W.2.1 6) (W.2.1 7) L.length) := by
  obtain ⟨a, ha⟩ : ∃ a, a = W.2.1 6 := ⟨_, rfl⟩
  obtain ⟨b, hb⟩ : ∃ b, b = W.2.1 7 := ⟨_, rfl⟩
  rw [← ha, ← hb]
  obtain ⟨mn, hm⟩ : ∃ mn, mn = cf_mn a b L.length := ⟨_, rfl⟩
  -- the heat is added
  have pass2 : ∀ d k W1 (u1 u2 : Int64), k + d = L.length → kg_f W W1 → W1.2.2.2.1 3 5 = -mn → (∀ j, j < k → W1.2.1 8 j = cf_su a b j + -mn ∧ W1.2.1 9 j = cf_su a b j + a j + -mn) → (∀ j, k ≤ j → j < L.length → W1.2.1 8 j = cf_su a b j ∧ W1.2.1 9 j = cf_su a b j + a j) → ∃ W2, (kg_f W W2 ∧ W2.2.2.2.1 3 5 = -mn ∧ ∀ j, j < L.length → W2.2.1 8 j = cf_su a b j + -mn ∧ W2.2.1 9 j = cf_su a b j + a j + -mn) ∧ jx_T 5 92 [.ref 3, .long u1, .retAddr 0, .long u2, .retAddr 0, .int (nI k)] [] (hc W1 g nx s) none (hc W2 g nx s) := by
    intro d
    induction d with
    | zero =>
      intro k W1 u1 u2 hk fr e3 lo up
      obtain rfl : k = L.length := by omega
      refine ⟨W1, ⟨fr, e3, lo⟩, ?_⟩
      have en := (fr.kl kl).1
      refine jx_T.step (pc' := 94) (st' := [_]) rfl rfl ?_
      refine jx_T.step (pc' := 95) (st' := [_, _]) rfl rfl ?_
      refine cl.get 3 (by decide) rfl (cw_c3 _) rfl ?_
      refine cl.get 4 (by decide) rfl (cw_c4 _) rfl ?_
      rw [en]
      refine cl.bc rfl (jx_br_ge _ _) (fun _ => ?_) (fun zq => absurd (Int32.le_refl _) zq)
      exact jx_T.ret rfl rfl
    | succ d ih =>
      intro k W1 u1 u2 hk fr e3 lo up
      have en := (fr.kl kl).1
      obtain ⟨w8, w9⟩ := up k (Nat.le_refl k) (by omega)
      obtain ⟨W2, f, gg⟩ := ih (k + 1) (cw_B (cw_B W1 8 (vp_updL (W1.2.1 8) k (W1.2.1 8 k + -mn))) 9 (vp_updL (W1.2.1 9) k (W1.2.1 9 k + -mn))) u1 u2 (by omega) (fr.tr ((kg_f.B (Or.inl rfl)).tr (kg_f.B (Or.inr rfl)))) e3 (fun j hj => by
        show vp_updL (W1.2.1 8) k _ j = _ ∧ vp_updL (W1.2.1 9) k _ j = _
        by_cases q : j = k
        · subst q
          rw [pk_uLs, pk_uLs, w8, w9]
          exact ⟨rfl, rfl⟩
        · rw [pk_uLn q, pk_uLn q]
          exact lo j (by omega)) (fun j h1 h2 => by
        show vp_updL (W1.2.1 8) k _ j = _ ∧ vp_updL (W1.2.1 9) k _ j = _
        rw [pk_uLn (by omega), pk_uLn (by omega)]
        exact up j (by omega) h2)
      refine ⟨W2, f, ?_⟩
      have e3b : ∀ h, (cw_B W1 8 h).2.2.2.1 3 5 = -mn := fun _ => e3
      refine jx_T.step (pc' := 94) (st' := [_]) rfl rfl ?_
      refine jx_T.step (pc' := 95) (st' := [_, _]) rfl rfl ?_
      refine cl.get 3 (by decide) rfl (cw_c3 _) rfl ?_
      refine cl.get 4 (by decide) rfl (cw_c4 _) rfl ?_
      rw [en]
      refine cl.bc rfl (jx_br_ge _ _) (fun zq => absurd zq (nI_ge (by omega) (by omega))) (fun _ => ?_)
      refine jx_T.step (pc' := 105) (st' := [_]) rfl rfl ?_
      refine cl.get 3 (by decide) rfl (cw_c3 _) rfl ?_
      refine jx_T.step (pc' := 110) (st' := [_, _]) rfl rfl ?_
      refine jx_T.step (pc' := 111) (st' := [_, _, _, _]) rfl rfl ?_
      refine cl.lald 8 (by decide) rfl (cw_c8 _) (rf_ix (by omega) (by decide)) ?_
      refine jx_T.step (pc' := 113) (st' := [_, _, _, _]) rfl rfl ?_
      refine cl.get 3 (by decide) rfl (cw_c3 _) rfl ?_
      rw [nI_clamp (by omega), e3]
      refine jx_T.step (pc' := 117) (st' := [_, _, _]) rfl rfl ?_
      refine cl.last 8 (by decide) rfl (cw_c8 _) (cw_s8 _) (rf_ix (by omega) (by decide)) ?_
      rw [nI_clamp (by omega)]
      refine jx_T.step (pc' := 119) (st' := [_]) rfl rfl ?_
      refine cl.get 3 (by decide) rfl (cw_c3 _) rfl ?_
      refine jx_T.step (pc' := 124) (st' := [_, _]) rfl rfl ?_
      refine jx_T.step (pc' := 125) (st' := [_, _, _, _]) rfl rfl ?_
      refine cl.lald 9 (by decide) rfl (cw_c9 _) (rf_ix (by omega) (by decide)) ?_
      refine jx_T.step (pc' := 127) (st' := [_, _, _, _]) rfl rfl ?_
      refine cl.get 3 (by decide) rfl (cw_c3 _) rfl ?_
      rw [nI_clamp (by omega), e3b]
      refine jx_T.step (pc' := 131) (st' := [_, _, _]) rfl rfl ?_
      refine cl.last 9 (by decide) rfl (cw_c9 _) (cw_s9 _) (rf_ix (by omega) (by decide)) ?_
      rw [nI_clamp (by omega)]
      refine jx_T.step (pc' := 135) (ls' := [_, _, _, _, _, _]) (st' := []) rfl rfl ?_
      refine jx_T.step (pc' := 92) (st' := []) rfl rfl ?_
      rw [nI_1]
      exact gg
  have pass1 : ∀ d k W1, k + d = L.length → kg_f W W1 → (∀ j, j < k → W1.2.1 8 j = cf_su a b j ∧ W1.2.1 9 j = cf_su a b j + a j) → ∃ W2, (kg_f W W2 ∧ W2.2.2.2.1 3 5 = -mn ∧ ∀ j, j < L.length → W2.2.1 8 j = cf_su a b j + -mn ∧ W2.2.1 9 j = cf_su a b j + a j + -mn) ∧ jx_T 5 7 [.ref 3, .long (cf_su a b k), .retAddr 0, .long (cf_mn a b k), .retAddr 0, .int (nI k)] [] (hc W1 g nx s) none (hc W2 g nx s) := by
    intro d
    induction d with
    | zero =>
      intro k W1 hk fr lo
      obtain rfl : k = L.length := by omega
      have en := (fr.kl kl).1
      obtain ⟨W2, f, gg⟩ := pass2 L.length 0 (cw_L W1 3 5 (-mn)) (cf_su a b L.length) mn (by omega) (fr.tr kg_f.L) rfl (fun j hj => absurd hj (by omega)) (fun j _ hj => lo j hj)
      refine ⟨W2, f, ?_⟩
      rw [← hm]
      refine jx_T.step (pc' := 9) (st' := [_]) rfl rfl ?_
      refine jx_T.step (pc' := 10) (st' := [_, _]) rfl rfl ?_
      refine cl.get 3 (by decide) rfl (cw_c3 _) rfl ?_
      refine cl.get 4 (by decide) rfl (cw_c4 _) rfl ?_
      rw [en]
      refine cl.bc rfl (jx_br_ge _ _) (fun _ => ?_) (fun zq => absurd (Int32.le_refl _) zq)
      refine jx_T.step (pc' := 84) (st' := [_]) rfl rfl ?_
      refine jx_T.step (pc' := 85) (st' := [_, _]) rfl rfl ?_
      refine jx_T.step (pc' := 86) (st' := [_, _]) rfl rfl ?_
      refine cl.put 3 (by decide) rfl (cw_c3 _) (Nat.le_of_ble_eq_true rfl) rfl (cw_f3_5 _ _) ?_
      refine jx_T.step (pc' := 90) (st' := [_]) rfl rfl ?_
      refine jx_T.step (pc' := 92) (ls' := [_, _, _, _, _, _]) (st' := []) rfl rfl ?_
      exact gg
    | succ d ih =>
      intro k W1 hk fr lo
      have en := (fr.kl kl).1
      have e6 : ∀ h, (cw_B W1 8 h).2.1 6 k = a k := fun h => by
        rw [ha, ← fr.2.1 6 (by decide) (by decide)]
        rfl
      have e7 : ∀ h h2, (cw_B (cw_B W1 8 h) 9 h2).2.1 7 k = b k := fun h h2 => by
        rw [hb, ← fr.2.1 7 (by decide) (by decide)]
        rfl
      obtain ⟨W2, f, gg⟩ := ih (k + 1) (cw_B (cw_B W1 8 (vp_updL (W1.2.1 8) k (cf_su a b k))) 9 (vp_updL (W1.2.1 9) k (cf_su a b k + a k))) (by omega) (fr.tr ((kg_f.B (Or.inl rfl)).tr (kg_f.B (Or.inr rfl)))) (fun j hj => by
        show vp_updL (W1.2.1 8) k _ j = _ ∧ vp_updL (W1.2.1 9) k _ j = _
        by_cases q : j = k
        · subst q
          rw [pk_uLs, pk_uLs]
          exact ⟨rfl, rfl⟩
        · rw [pk_uLn q, pk_uLn q]
          exact lo j (by omega))
      refine ⟨W2, f, ?_⟩
      have e8 : ∀ h2, (cw_B (cw_B W1 8 (vp_updL (W1.2.1 8) k (cf_su a b k))) 9 h2).2.1 8 k = cf_su a b k := fun h2 => pk_uLs
      have e9 : (cw_B (cw_B W1 8 (vp_updL (W1.2.1 8) k (cf_su a b k))) 9 (vp_updL (W1.2.1 9) k (cf_su a b k + a k))).2.1 9 k = cf_su a b k + a k := pk_uLs
      refine jx_T.step (pc' := 9) (st' := [_]) rfl rfl ?_
      refine jx_T.step (pc' := 10) (st' := [_, _]) rfl rfl ?_
      refine cl.get 3 (by decide) rfl (cw_c3 _) rfl ?_
      refine cl.get 4 (by decide) rfl (cw_c4 _) rfl ?_
      rw [en]
      refine cl.bc rfl (jx_br_ge _ _) (fun zq => absurd zq (nI_ge (by omega) (by omega))) (fun _ => ?_)
      refine jx_T.step (pc' := 20) (st' := [_]) rfl rfl ?_
      refine cl.get 3 (by decide) rfl (cw_c3 _) rfl ?_
      refine jx_T.step (pc' := 25) (st' := [_, _]) rfl rfl ?_
      refine jx_T.step (pc' := 26) (st' := [_, _, _]) rfl rfl ?_
      refine cl.last 8 (by decide) rfl (cw_c8 _) (cw_s8 _) (rf_ix (by omega) (by decide)) ?_
      refine jx_T.step (pc' := 28) (st' := [_]) rfl rfl ?_
      refine jx_T.step (pc' := 29) (st' := [_, _]) rfl rfl ?_
      refine cl.get 3 (by decide) rfl (cw_c3 _) rfl ?_
      refine jx_T.step (pc' := 34) (st' := [_, _, _]) rfl rfl ?_
      rw [nI_clamp (by omega)]
      refine cl.lald 6 (by decide) rfl (cw_c6 _) (rf_ix (by omega) (by decide)) ?_
      rw [nI_clamp (by omega), e6]
      refine jx_T.step (pc' := 36) (st' := [_]) rfl rfl ?_
      refine jx_T.step (pc' := 37) (ls' := [_, _, _, _, _, _]) (st' := []) rfl rfl ?_
      refine jx_T.step (pc' := 38) (st' := [_]) rfl rfl ?_
      refine cl.get 3 (by decide) rfl (cw_c3 _) rfl ?_
      refine jx_T.step (pc' := 43) (st' := [_, _]) rfl rfl ?_
      refine jx_T.step (pc' := 44) (st' := [_, _, _]) rfl rfl ?_
      refine cl.last 9 (by decide) rfl (cw_c9 _) (cw_s9 _) (rf_ix (by omega) (by decide)) ?_
      refine jx_T.step (pc' := 46) (st' := [_]) rfl rfl ?_
      refine jx_T.step (pc' := 47) (st' := [_, _]) rfl rfl ?_
      refine cl.get 3 (by decide) rfl (cw_c3 _) rfl ?_
      refine jx_T.step (pc' := 52) (st' := [_, _, _]) rfl rfl ?_
      rw [nI_clamp (by omega)]
      refine cl.lald 7 (by decide) rfl (cw_c7 _) (rf_ix (by omega) (by decide)) ?_
      rw [nI_clamp (by omega)]
      have e7' := e7 (vp_updL (W1.2.1 8) k (cf_su a b k)) (vp_updL (W1.2.1 9) k (cf_su a b k + a k))
      refine (show jx_T 5 53 [.ref 3, .long (cf_su a b k + a k), .retAddr 0, .long (cf_mn a b k), .retAddr 0, .int (nI k)] [.long (b k), .long (cf_su a b k + a k)] (hc (cw_B (cw_B W1 8 (vp_updL (W1.2.1 8) k (cf_su a b k))) 9 (vp_updL (W1.2.1 9) k (cf_su a b k + a k))) g nx s) none (hc W2 g nx s) from ?_ : _) |> fun t => by rw [← e7'] at t; exact t
      refine jx_T.step (pc' := 54) (st' := [_]) rfl rfl ?_
      refine jx_T.step (pc' := 55) (ls' := [_, _, _, _, _, _]) (st' := []) rfl rfl ?_
      refine jx_T.step (pc' := 56) (st' := [_]) rfl rfl ?_
      refine jx_T.step (pc' := 57) (st' := [_, _]) rfl rfl ?_
      refine cl.get 3 (by decide) rfl (cw_c3 _) rfl ?_
      refine jx_T.step (pc' := 62) (st' := [_, _, _]) rfl rfl ?_
      refine cl.lald 8 (by decide) rfl (cw_c8 _) (rf_ix (by omega) (by decide)) ?_
      refine jx_T.step (pc' := 64) (st' := [_, _, _]) rfl rfl ?_
      refine cl.get 3 (by decide) rfl (cw_c3 _) rfl ?_
      refine jx_T.step (pc' := 69) (st' := [_, _, _, _]) rfl rfl ?_
      refine cl.lald 9 (by decide) rfl (cw_c9 _) (rf_ix (by omega) (by decide)) ?_
      rw [nI_clamp (by omega), e8, e9]
      refine cl.s2I rfl (by decide) rfl (Nat.le_of_ble_eq_true rfl) (Nat.le_of_ble_eq_true rfl) (kc_minL _ _ _) ?_
      refine cl.s2I rfl (by decide) rfl (Nat.le_of_ble_eq_true rfl) (Nat.le_of_ble_eq_true rfl) (kc_minL _ _ _) ?_
      refine jx_T.step (pc' := 77) (ls' := [_, _, _, _, _, _]) (st' := []) rfl rfl ?_
      refine jx_T.step (pc' := 80) (ls' := [_, _, _, _, _, _]) (st' := []) rfl rfl ?_
      refine jx_T.step (pc' := 7) (st' := []) rfl rfl ?_
      rw [nI_1]
      exact gg
  obtain ⟨W2, f, gg⟩ := pass1 L.length 0 W (by omega) kg_f.rf (fun j hj => absurd hj (by omega))
  rw [← hm]
  refine ⟨W2, ?_, f⟩
  show jx_T 5 0 [.ref 3, .retAddr 0, .retAddr 0, .retAddr 0, .retAddr 0, .retAddr 0] [] _ _ _
  refine jx_T.step (pc' := 1) (st' := [_]) rfl rfl ?_
  refine jx_T.step (pc' := 2) (ls' := [_, _, _, _, _, _]) (st' := []) rfl rfl ?_
  refine jx_T.step (pc' := 3) (st' := [_]) rfl rfl ?_
  refine jx_T.step (pc' := 4) (ls' := [_, _, _, _, _, _]) (st' := []) rfl rfl ?_
  refine jx_T.step (pc' := 5) (st' := [_]) rfl rfl ?_
  refine jx_T.step (pc' := 7) (ls' := [_, _, _, _, _, _]) (st' := []) rfl rfl ?_
  exact gg
