/-! the invariant at the beginning -/
theorem k1_N_far : ∀ i c, i ≤ 8 → 417 ≤ c → k1_N i c = 0
  | 0, c, _, h => by
    show (if c = 1 then _ else (0 : Int32)) = 0
    rw [if_neg (by omega)]
  | i + 1, c, hi, h => by
    show (if c = 290 + 18 * i then _ else k1_N i c) = 0
    rw [if_neg (by omega)]
    exact k1_N_far i c (by omega) h
theorem k1_tls : tls k1_T (k1_N 8) := by
  refine ⟨⟨rfl, by decide, rfl, by decide, by decide⟩, fun i hi => absurd hi (Nat.not_lt_zero i), fun k hk => ?_, fun k hk => ?_, fun a ha => ?_⟩
  · refine Or.inl ⟨rfl, ?_⟩
    match k, hk with
    | 0, _ => rfl
    | 1, _ => rfl
    | 2, _ => rfl
    | 3, _ => rfl
    | 4, _ => rfl
    | 5, _ => rfl
    | 6, _ => rfl
    | 7, _ => rfl
    | k + 8, h => exact absurd h (by omega)
  · exact ⟨k1_N_far 8 _ (Nat.le_refl _) (by omega), Nat.zero_le _, fun j hj => absurd hj (Nat.not_lt_zero j)⟩
  · refine ⟨0, rfl, by decide, fun c hc => ?_⟩
    rw [k1_N_far 8 _ (Nat.le_refl _) (by omega)]
    exact ⟨⟨fun q => absurd q (by rw [Nat.zero_testBit]; decide), fun q => absurd q (by decide)⟩, Or.inl rfl⟩
theorem k1_found (w : Int32) : (if 0 ≤ w.toInt ∧ w.toInt ≤ 3 then k1_W.2.1 34 w.toNatClampNeg else -1) = rf_fin k1_R w := by
  by_cases e0 : w = 0
  · subst e0
    decide
  by_cases e1 : w = 1
  · subst e1
    decide
  by_cases e2 : w = 2
  · subst e2
    decide
  by_cases e3 : w = 3
  · subst e3
    decide
  unfold rf_fin
  rw [if_neg e0, if_neg e1, if_neg e2, if_neg e3, if_neg]
  intro q
  have h0 : ¬ w.toInt = 0 := fun z => e0 (Int32.toInt_inj.mp z)
  have h1 : ¬ w.toInt = 1 := fun z => e1 (Int32.toInt_inj.mp z)
  have h2 : ¬ w.toInt = 2 := fun z => e2 (Int32.toInt_inj.mp z)
  have h3 : ¬ w.toInt = 3 := fun z => e3 (Int32.toInt_inj.mp z)
  omega
theorem lw_start (L : Nat) (xs : Nat → Int32) (h : jx_H) (A : rf_At 56 k1_R h) (n : h.1 = 78) (sl : h.2.1 = k1_s + kz129) (f : ∀ a, (a < 56 ∨ 78 ≤ a) → h.2.2 a = (hc k1_W (k1_g L xs) 56 k1_s).2.2 a) : lw_K L xs 0 h := by
  have eh : h = ju (hc k1_W (k1_g L xs) 78 (k1_s + kz129)) (fun a => if 56 ≤ a ∧ a < 78 then h.2.2 a else none) := by
    refine Prod.ext n (Prod.ext sl (funext fun a => ?_))
    show h.2.2 a = match (hc k1_W (k1_g L xs) 56 k1_s).2.2 a with | some e => some e | none => if 56 ≤ a ∧ a < 78 then h.2.2 a else none
    by_cases y : 56 ≤ a ∧ a < 78
    · rw [hc_out (by omega), k1_free L xs a y.1, if_pos y]
    · rw [if_neg y, f a (by omega)]
      cases (hc k1_W (k1_g L xs) 56 k1_s).2.2 a <;> rfl
  refine ⟨k1_W, k1_g L xs, 78, k1_s + kz129, _, k1_R, 0, 0, 0, 52, k1_T, eh, Nat.le_refl _, fun a ha => k1_free L xs a (by omega), fun a ha _ => k1_free L xs a ha, fun a ha => if_neg ha, k1_script L xs, A, ⟨⟨by decide, by decide, rfl, rfl, rfl⟩, k1_sta L xs, (k1_now L xs).2.2⟩, k1_tls, rfl, rfl, rfl, rfl, by decide, fun j hj => ?_, ⟨0, by decide, rfl, rfl⟩, k1_found, rfl, rfl, Nat.le_refl _, Nat.le_refl _⟩
  obtain rfl : j = 0 := by omega
  refine ⟨52, k1_T, rfl, k1_sta L xs, k1_tls.c (fun c hc => ?_)⟩
  have := rf_put_at (fun _ => 0) (k1_N 8) ((0 + 0) % 201) ((0 + 0) % 201) c hc
  rw [if_pos rfl] at this
  exact this
/-- the law, once each call keeps the invariant -/
theorem lw_all {L : Nat} {xs : Nat → Int32} (hL : L ≤ 3072) (ops : lw_ops (lw_K L xs) L xs) : jx_Law L xs := lw_law hL (fun _ _ p => p.sc) (fun _ _ p => p.mono) ops (fun _ _ hk p => p.room hk) (fun h a b c d => lw_start L xs h a b c d)
