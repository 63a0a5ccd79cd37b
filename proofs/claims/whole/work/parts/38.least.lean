/-! the reference's least heat -/
theorem rf_sB_1 (R : rf_R) (f f2 g : Nat → Int64) : rf_sB (rf_sB (rf_sB R 11 f) 12 g) 11 f2 = rf_sB (rf_sB R 11 f2) 12 g := by
  unfold rf_sB
  simp only [Prod.mk.injEq, true_and, and_true]
  funext j
  by_cases h1 : j = 11
  · subst h1; rfl
  · by_cases h2 : j = 12
    · subst h2; rfl
    · simp [h1, h2]
theorem rf_sB_2 (R : rf_R) (f g g2 : Nat → Int64) : rf_sB (rf_sB (rf_sB R 11 f) 12 g) 12 g2 = rf_sB (rf_sB R 11 f) 12 g2 := by
  unfold rf_sB
  simp only [Prod.mk.injEq, true_and, and_true]
  funext j
  by_cases h2 : j = 12
  · subst h2; rfl
  · simp [h2]
theorem rf_sB_id (R : rf_R) : rf_sB (rf_sB R 11 (R.2.1 11)) 12 (R.2.1 12) = R := by
  obtain ⟨a, b, c, d⟩ := R
  unfold rf_sB
  simp only [Prod.mk.injEq, true_and, and_true]
  funext j
  by_cases h1 : j = 12
  · subst h1; rfl
  · by_cases h2 : j = 11
    · subst h2; rfl
    · simp [h1, h2]
def rf_min (s m : Int64) : Int64 := if m ≤ s then m else s
/-- the sums down the levels: sum, least, ahead, behind -/
def rf_lh (R : rf_R) (w : Int32) (M E : Nat) : Nat → Int64 × Int64 × (Nat → Int64) × (Nat → Int64)
  | 0 => (0, 0, R.2.1 11, R.2.1 12)
  | k + 1 =>
    let q := rf_lh R w M E k
    let s1 := if k = 0 then q.1 else q.1 + rf_la (R.1 0) w (R.1 9 (k - 1)) (R.1 9 k) M
    let s2 := s1 + rf_se (R.1 7) (R.2.1 8) (R.1 9 k) (rf_st (R.1 0) w (R.1 9 k) M) E
    (s2, rf_min s2 (rf_min s1 q.2.1), vp_updL q.2.2.1 k s1, vp_updL q.2.2.2 k s2)
def rf_lhR (R : rf_R) (w : Int32) (M E n : Nat) : rf_R := rf_sB (rf_sB R 11 (rf_lh R w M E n).2.2.1) 12 (rf_lh R w M E n).2.2.2
/-- the least heat, from the levels on that lays has laid -/
theorem rc_least_loop (r : Nat) (R : rf_R) (w : Int32) (M E n : Nat) (hM : M ≤ 12) (hE : E ≤ 2) (hn : n ≤ 110) (eM : R.1 0 0 = nI M) (eE : R.2.2.1 6 = nI E) (en : R.2.2.1 10 = nI n) (hok : rf_ok (R.1 0) M) : ∀ (d k : Nat), k + d = n → ∀ h, rf_At r (rf_lhR R w M E k) h → rf_G r 159 13 [.ref r, .int w, .long (rf_lh R w M E k).1, .retAddr 0, .long (rf_lh R w M E k).2.1, .retAddr 0, .int (nI k)] [] h (some (.long (-(rf_lh R w M E n).2.1))) (rf_lhR R w M E n) := by
  intro d
  induction d with
  | zero =>
    intro k hk h H
    obtain rfl : k = n := by omega
    refine rf_G.step (pc' := 15) (st' := [_]) rfl rfl ?_
    refine rf_G.step (pc' := 16) (st' := [_, _]) rfl rfl ?_
    refine rf_G.get H rfl rfl ?_
    rw [show (rf_lhR R w M E k).2.2.1 10 = nI k from en]
    refine rf_G.bc rfl (jx_br_ge _ _) (fun _ => ?_) (fun q => absurd (Int32.le_refl _) q)
    refine rf_G.step (pc' := 110) (st' := [_]) rfl rfl ?_
    refine rf_G.step (pc' := 111) (st' := [_]) rfl rfl ?_
    exact rf_G.ret H rfl rfl
  | succ d ih =>
    intro k hk h H
    have nx := ih (k + 1) (by omega)
    rw [← nI_1] at nx
    generalize hq : rf_lh R w M E k = q at H
    obtain ⟨s0, m0, f, g⟩ := q
    have t102 : ∀ s1 h, s1 = (if k = 0 then s0 else s0 + rf_la (R.1 0) w (R.1 9 (k - 1)) (R.1 9 k) M) → rf_At r (rf_sB (rf_sB R 11 f) 12 g) h → rf_G r 159 51 [.ref r, .int w, .long s1, .retAddr 0, .long m0, .retAddr 0, .int (nI k)] [] h (some (.long (-(rf_lh R w M E n).2.1))) (rf_lhR R w M E n) := by
      intro s1 h e1 H
      refine rf_G.step (pc' := 52) (st' := [_]) rfl rfl ?_
      refine rf_G.get H rfl rfl ?_
      refine rf_G.step (pc' := 57) (st' := [_, _]) rfl rfl ?_
      refine rf_G.step (pc' := 58) (st' := [_, _, _]) rfl rfl ?_
      refine rf_G.last H 11 7 130 (by decide) rfl (rf_ix (by omega) (by decide)) (fun h H => ?_)
      rw [nI_clamp (by omega), rf_sB_1] at H
      have t69 : ∀ h, rf_At r (rf_sB (rf_sB R 11 (vp_updL f k s1)) 12 g) h → rf_G r 159 69 [.ref r, .int w, .long s1, .retAddr 0, .long (rf_min s1 m0), .retAddr 0, .int (nI k)] [] h (some (.long (-(rf_lh R w M E n).2.1))) (rf_lhR R w M E n) := by
        intro h H
        refine rf_G.step (pc' := 70) (st' := [_]) rfl rfl ?_
        refine rf_G.step (pc' := 71) (st' := [_, _]) rfl rfl ?_
        refine rf_G.step (pc' := 72) (st' := [_, _, _]) rfl rfl ?_
        refine rf_G.step (pc' := 73) (st' := [_, _, _, _]) rfl rfl ?_
        refine rf_G.get H rfl rfl ?_
        refine rf_G.step (pc' := 78) (st' := [_, _, _, _, _]) rfl rfl ?_
        refine rf_G.iald H 9 6 130 (by decide) rfl (rf_ix (by omega) (by decide)) ?_
        rw [nI_clamp (by omega)]
        refine rf_G.v2I H rfl (by decide) rfl ⟨Nat.le_of_ble_eq_true rfl, rfl⟩ (Nat.le_of_ble_eq_true rfl) (rc_stills r (rf_sB (rf_sB R 11 (vp_updL f k s1)) 12 g) w (R.1 9 k) M E hM hE eM eE) (fun h H => ?_)
        refine rf_G.step (pc' := 83) (st' := [_]) rfl rfl ?_
        refine rf_G.step (pc' := 84) (ls' := [_, _, _, _, _, _, _]) (st' := []) rfl rfl ?_
        refine rf_G.step (pc' := 85) (st' := [_]) rfl rfl ?_
        refine rf_G.get H rfl rfl ?_
        refine rf_G.step (pc' := 90) (st' := [_, _]) rfl rfl ?_
        refine rf_G.step (pc' := 91) (st' := [_, _, _]) rfl rfl ?_
        refine rf_G.last H 12 8 130 (by decide) rfl (rf_ix (by omega) (by decide)) (fun h H => ?_)
        rw [nI_clamp (by omega), rf_sB_2] at H
        have fin := nx h (by
          unfold rf_lhR rf_lh
          rw [hq]
          dsimp only
          rw [← e1]
          exact H)
        have e3 : (rf_lh R w M E (k + 1)).1 = s1 + rf_se (R.1 7) (R.2.1 8) (R.1 9 k) (rf_st (R.1 0) w (R.1 9 k) M) E := by
          unfold rf_lh
          rw [hq]
          dsimp only
          rw [← e1]
        have e4 : (rf_lh R w M E (k + 1)).2.1 = rf_min (s1 + rf_se (R.1 7) (R.2.1 8) (R.1 9 k) (rf_st (R.1 0) w (R.1 9 k) M) E) (rf_min s1 m0) := by
          unfold rf_lh
          rw [hq]
          dsimp only
          rw [← e1]
        rw [e3, e4] at fin
        refine rf_G.step (pc' := 93) (st' := [_]) rfl rfl ?_
        refine rf_G.step (pc' := 95) (st' := [_, _]) rfl rfl ?_
        refine rf_G.step (pc' := 96) (st' := [_]) rfl rfl ?_
        refine rf_G.br rfl (jx_br_ge _ _) (fun z => ?_) (fun z => ?_)
        · rw [show rf_min (s1 + rf_se (R.1 7) (R.2.1 8) (R.1 9 k) (rf_st (R.1 0) w (R.1 9 k) M) E) (rf_min s1 m0) = rf_min s1 m0 from if_pos ((lg_cmp_ge _ _).mp z)] at fin
          refine rf_G.step (pc' := 105) (ls' := [_, _, _, _, _, _, _]) (st' := []) rfl rfl ?_
          refine rf_G.step (pc' := 13) (st' := []) rfl rfl ?_
          exact fin
        · rw [show rf_min (s1 + rf_se (R.1 7) (R.2.1 8) (R.1 9 k) (rf_st (R.1 0) w (R.1 9 k) M) E) (rf_min s1 m0) = s1 + rf_se (R.1 7) (R.2.1 8) (R.1 9 k) (rf_st (R.1 0) w (R.1 9 k) M) E from if_neg (fun y => z ((lg_cmp_ge _ _).mpr y))] at fin
          refine rf_G.step (pc' := 100) (st' := [_]) rfl rfl ?_
          refine rf_G.step (pc' := 102) (ls' := [_, _, _, _, _, _, _]) (st' := []) rfl rfl ?_
          refine rf_G.step (pc' := 105) (ls' := [_, _, _, _, _, _, _]) (st' := []) rfl rfl ?_
          refine rf_G.step (pc' := 13) (st' := []) rfl rfl ?_
          exact fin
      have tt := t69 h H
      refine rf_G.step (pc' := 60) (st' := [_]) rfl rfl ?_
      refine rf_G.step (pc' := 62) (st' := [_, _]) rfl rfl ?_
      refine rf_G.step (pc' := 63) (st' := [_]) rfl rfl ?_
      refine rf_G.br rfl (jx_br_ge _ _) (fun z => ?_) (fun z => ?_)
      · rw [show rf_min s1 m0 = m0 from if_pos ((lg_cmp_ge _ _).mp z)] at tt
        exact tt
      · rw [show rf_min s1 m0 = s1 from if_neg (fun y => z ((lg_cmp_ge _ _).mpr y))] at tt
        refine rf_G.step (pc' := 67) (st' := [_]) rfl rfl ?_
        refine rf_G.step (pc' := 69) (ls' := [_, _, _, _, _, _, _]) (st' := []) rfl rfl ?_
        exact tt
    have H2 : rf_At r (rf_sB (rf_sB R 11 f) 12 g) h := by
      have := H
      unfold rf_lhR at this
      rw [hq] at this
      exact this
    refine rf_G.step (pc' := 15) (st' := [_]) rfl rfl ?_
    refine rf_G.step (pc' := 16) (st' := [_, _]) rfl rfl ?_
    refine rf_G.get H rfl rfl ?_
    rw [show (rf_lhR R w M E k).2.2.1 10 = nI n from en]
    refine rf_G.bc rfl (jx_br_ge _ _) (fun z => absurd z (nI_ge (by omega) (by omega))) (fun _ => ?_)
    refine rf_G.step (pc' := 24) (st' := [_]) rfl rfl ?_
    refine rf_G.br rfl (jx_br_le _ _) (fun z => ?_) (fun z => ?_)
    · have hk0 : k = 0 := by
        rcases Nat.eq_zero_or_pos k with y | y
        · exact y
        · exact absurd z (nI_nle y (by omega))
      exact t102 s0 h (by rw [if_pos hk0]) H2
    · obtain ⟨j, rfl⟩ : ∃ j, k = j + 1 := ⟨k - 1, by
        rcases Nat.eq_zero_or_pos k with y | y
        · subst y; exact absurd (Int32.le_refl _) z
        · omega⟩
      refine rf_G.step (pc' := 28) (st' := [_]) rfl rfl ?_
      refine rf_G.step (pc' := 29) (st' := [_, _]) rfl rfl ?_
      refine rf_G.step (pc' := 30) (st' := [_, _, _]) rfl rfl ?_
      refine rf_G.step (pc' := 31) (st' := [_, _, _, _]) rfl rfl ?_
      refine rf_G.get H rfl rfl ?_
      refine rf_G.step (pc' := 36) (st' := [_, _, _, _, _]) rfl rfl ?_
      refine rf_G.step (pc' := 37) (st' := [_, _, _, _, _, _]) rfl rfl ?_
      refine rf_G.step (pc' := 38) (st' := [_, _, _, _, _]) rfl rfl ?_
      rw [nI_pred]
      refine rf_G.iald H 9 6 130 (by decide) rfl (rf_ix (by omega) (by decide)) ?_
      refine rf_G.step (pc' := 40) (st' := [_, _, _, _, _]) rfl rfl ?_
      refine rf_G.get H rfl rfl ?_
      refine rf_G.step (pc' := 45) (st' := [_, _, _, _, _, _]) rfl rfl ?_
      rw [nI_clamp (by omega)]
      refine rf_G.iald H 9 6 130 (by decide) rfl (rf_ix (by omega) (by decide)) ?_
      rw [nI_clamp (by omega)]
      refine rf_G.v3I H rfl (by decide) rfl ⟨Nat.le_of_ble_eq_true rfl, rfl⟩ (Nat.le_of_ble_eq_true rfl) (rc_layer r (rf_lhR R w M E (j + 1)) w (R.1 9 j) (R.1 9 (j + 1)) M hM eM hok) (fun h H => ?_)
      refine rf_G.step (pc' := 50) (st' := [_]) rfl rfl ?_
      refine rf_G.step (pc' := 51) (ls' := [_, _, _, _, _, _, _]) (st' := []) rfl rfl ?_
      exact t102 _ h (by rw [if_neg (by omega)]; rfl) (by
        have := H
        unfold rf_lhR at this
        rw [hq] at this
        exact this)
