/-! the reference: judges -/
def rf_kJ (R R2 : rf_R) : Prop := R2.1 = R.1 ∧ (∀ k, k ≠ 19 → R2.2.1 k = R.2.1 k) ∧ (∀ k, k ≠ 20 → R2.2.2.1 k = R.2.2.1 k) ∧ ∀ k, (k < 13 ∨ 19 ≤ k) → R2.2.2.2 k = R.2.2.2 k
theorem rf_kJ.rf {R : rf_R} : rf_kJ R R := ⟨rfl, fun _ _ => rfl, fun _ _ => rfl, fun _ _ => rfl⟩
theorem rf_kJ.tr {R R2 R3 : rf_R} (a : rf_kJ R R2) (b : rf_kJ R2 R3) : rf_kJ R R3 := ⟨b.1.trans a.1, fun k h => (b.2.1 k h).trans (a.2.1 k h), fun k h => (b.2.2.1 k h).trans (a.2.2.1 k h), fun k h => (b.2.2.2 k h).trans (a.2.2.2 k h)⟩
theorem rf_kJ.M {R R2 : rf_R} (a : rf_kM R R2) : rf_kJ R R2 := ⟨a.1, fun k _ => by rw [a.2.1], fun k _ => by rw [a.2.2.1], a.2.2.2⟩
theorem rf_kJ.B {R : rf_R} {f : Nat → Int64} : rf_kJ R (rf_sB R 19 f) := ⟨rfl, fun _ h => if_neg h, fun _ _ => rfl, fun _ _ => rfl⟩
theorem rf_kJ.I {R : rf_R} {x : Int32} : rf_kJ R (rf_sI R 20 x) := ⟨rfl, fun _ _ => rfl, fun _ h => if_neg h, fun _ _ => rfl⟩
theorem rf_kJ.J {R R2 : rf_R} (a : rf_kJ R R2) : rf_J R R2 := ⟨by rw [a.1], by rw [a.1], fun k h => a.2.2.1 k (by omega), fun k h => a.2.2.2 k (Or.inr h), by rw [a.1]⟩
def jd_a (N : Nat → Int32) (n k : Nat) : Nat := (N (434 + 61 * n + 1 + 3 * k)).toNatClampNeg
def jd_c (N : Nat → Int32) (n k : Nat) : Nat := (N (434 + 61 * n + 1 + 3 * k + 1)).toNatClampNeg
def jd_h (N : Nat → Int32) (n k : Nat) : Int64 := (N (434 + 61 * n + 1 + 3 * k + 2)).toInt64
def jd_ok (N : Nat → Int32) (M n many : Nat) : Prop := ∀ k, k < many → (jd_a N n k < M ∧ N (434 + 61 * n + 1 + 3 * k) = nI (jd_a N n k)) ∧ (jd_c N n k < M ∧ N (434 + 61 * n + 1 + 3 * k + 1) = nI (jd_c N n k)) ∧ (1 ≤ (N (434 + 61 * n + 1 + 3 * k + 2)).toInt ∧ (N (434 + 61 * n + 1 + 3 * k + 2)).toInt ≤ 100000000)
def jd_g (g : Nat → Int64) (a c : Nat) (x : Int64) : Nat → Int64 := vp_updL (vp_updL g a (g a + x)) c (vp_updL g a (g a + x) c + x)
abbrev jd_1 (N : Nat → Int32) (n k : Nat) (g : Nat → Int64) : Prop := (rf_total N (jd_a N n k)).toInt64 < g (jd_a N n k) + jd_h N n k ∨ (rf_total N (jd_c N n k)).toInt64 < g (jd_c N n k) + jd_h N n k
def jd_ms (N : Nat → Int32) (n k : Nat) (g : Nat → Int64) : Int64 × Int64 := ms_at N (jd_a N n k) (jd_c N n k) (g (jd_a N n k)) (g (jd_c N n k)) (jd_h N n k)
def jd_lp (N : Nat → Int32) (n : Nat) : Nat → Nat → (Nat → Int64) → Int32 × Int32 × (Nat → Int64)
  | 0, _, g => (0, -1, g)
  | d + 1, k, g => if jd_1 N n k g then (1, nI k, g) else if (jd_ms N n k g).1 < (N 1).toInt64 * (jd_ms N n k g).2 then (2, nI k, g) else jd_lp N n d (k + 1) (jd_g g (jd_a N n k) (jd_c N n k) (jd_h N n k))
theorem rc_judges_loop (r : Nat) (R : rf_R) (M n many : Nat) (P : rf_Pre R M 0) (hn : n < 4) (hm : many ≤ 20) (ok : jd_ok (R.1 0) M n many) : ∀ d k g R1 (u4 u5 u6 u7 : Value), k + d = many → rf_kJ R R1 → (∀ s, s < 12 → R1.2.1 19 s = g s) → ∃ R2, (rf_kJ R R2 ∧ R2.2.2.1 20 = (jd_lp (R.1 0) n d k g).2.1 ∧ ∀ s, s < 12 → R2.2.1 19 s = (jd_lp (R.1 0) n d k g).2.2 s) ∧ ∀ h, rf_At r R1 h → rf_G r 182 23 [.ref r, .int (nI n), .int (nI many), .int (nI k), u4, u5, u6, u7] [] h (some (.int (jd_lp (R.1 0) n d k g).1)) R2 := by
  have hM := P.hM
  intro d
  induction d with
  | zero =>
    intro k g R1 u4 u5 u6 u7 hk kJ hg
    obtain rfl : k = many := by omega
    refine ⟨rf_sI R1 20 (-1), ⟨kJ.tr rf_kJ.I, rfl, hg⟩, fun h H => ?_⟩
    refine rf_G.step (pc' := 24) (st' := [_]) rfl rfl ?_
    refine rf_G.step (pc' := 25) (st' := [_, _]) rfl rfl ?_
    refine rf_G.bc rfl (jx_br_ge _ _) (fun _ => ?_) (fun zq => absurd (Int32.le_refl _) zq)
    refine rf_G.step (pc' := 182) (st' := [_]) rfl rfl ?_
    refine rf_G.step (pc' := 183) (st' := [_, _]) rfl rfl ?_
    refine rf_G.putI H rfl rfl (by decide) rfl (fun h H => ?_)
    refine rf_G.step (pc' := 187) (st' := [_]) rfl rfl ?_
    exact rf_G.ret H rfl rfl
  | succ d ih =>
    intro k g R1 u4 u5 u6 u7 hk kJ hg
    obtain ⟨⟨a1, a2⟩, ⟨c1, c2⟩, q1, q2⟩ := ok k (by omega)
    have P1 := kJ.J.pre P
    have eN : R1.1 0 = R.1 0 := by rw [kJ.1]
    have cm0 := rc_meeting r R1 n k 0 hn (by omega) (by decide)
    have cm1 := rc_meeting r R1 n k 1 hn (by omega) (by decide)
    have cm2 := rc_meeting r R1 n k 2 hn (by omega) (by decide)
    rw [eN] at cm0 cm1 cm2
    rw [Nat.add_zero, a2] at cm0
    rw [c2] at cm1
    have P2 : rf_Pre (rf_sI R1 20 (nI k)) M 0 := rf_kJ.J rf_kJ.I |>.pre P1
    have ta := rc_totalP r P2 (jd_a (R.1 0) n k) a1
    have tc := rc_totalP r P2 (jd_c (R.1 0) n k) c1
    have eN2 : (rf_sI R1 20 (nI k)).1 0 = R.1 0 := eN
    rw [eN2] at ta tc
    have hh : (jd_h (R.1 0) n k).toInt = (R.1 0 (434 + 61 * n + 1 + 3 * k + 2)).toInt := rf_w _
    have eu : jd_lp (R.1 0) n (d + 1) k g = if jd_1 (R.1 0) n k g then (1, nI k, g) else if (jd_ms (R.1 0) n k g).1 < (R.1 0 1).toInt64 * (jd_ms (R.1 0) n k g).2 then (2, nI k, g) else jd_lp (R.1 0) n d (k + 1) (jd_g g (jd_a (R.1 0) n k) (jd_c (R.1 0) n k) (jd_h (R.1 0) n k)) := rfl
    rw [eu]
    have pa := P2.ok (jd_a (R.1 0) n k) a1
    have pc := P2.ok (jd_c (R.1 0) n k) c1
    obtain ⟨R3, c3, k3, e17, e18⟩ := rc_meets r (rf_sI R1 20 (nI k)) (jd_a (R.1 0) n k) (jd_c (R.1 0) n k) (by omega) (by omega) pa.1 pc.1 pa.2 pc.2 (g (jd_a (R.1 0) n k)) (g (jd_c (R.1 0) n k)) (jd_h (R.1 0) n k) (by omega) (by omega)
    rw [eN2] at e17 e18
    have e17 : R3.2.2.2 17 = (jd_ms (R.1 0) n k g).1 := e17
    have e18 : R3.2.2.2 18 = (jd_ms (R.1 0) n k g).2 := e18
    have g19 : ∀ s, s < 12 → (rf_sI R1 20 (nI k)).2.1 19 s = g s := hg
    have g3 : ∀ s, s < 12 → R3.2.1 19 s = g s := by
      intro s hs
      rw [k3.2.1]
      exact hg s hs
    have n3 : R3.1 0 = R.1 0 := by
      rw [k3.1]
      exact eN
    have K3 : rf_kJ R R3 := (kJ.tr rf_kJ.I).tr (rf_kJ.M k3)
    have w3 : R3.2.2.1 20 = nI k := by
      rw [k3.2.2.1]
      rfl
    have one : ∀ h, rf_At r (rf_sI R1 20 (nI k)) h → rf_G r 182 103 [.ref r, .int (nI n), .int (nI many), .int (nI k), .int (nI (jd_a (R.1 0) n k)), .int (nI (jd_c (R.1 0) n k)), .long (jd_h (R.1 0) n k), .retAddr 0] [] h (some (.int 1)) (rf_sI R1 20 (nI k)) := by
      intro h H
      refine rf_G.step (pc' := 104) (st' := [_]) rfl rfl ?_
      exact rf_G.ret H rfl rfl
    have head : ∀ v R2, (∀ h, rf_At r (rf_sI R1 20 (nI k)) h → rf_G r 182 61 [.ref r, .int (nI n), .int (nI many), .int (nI k), .int (nI (jd_a (R.1 0) n k)), .int (nI (jd_c (R.1 0) n k)), .long (jd_h (R.1 0) n k), .retAddr 0] [] h v R2) → ∀ h, rf_At r R1 h → rf_G r 182 23 [.ref r, .int (nI n), .int (nI many), .int (nI k), u4, u5, u6, u7] [] h v R2 := by
      intro v R2 gg h H
      refine rf_G.step (pc' := 24) (st' := [_]) rfl rfl ?_
      refine rf_G.step (pc' := 25) (st' := [_, _]) rfl rfl ?_
      refine rf_G.bc rfl (jx_br_ge _ _) (fun zq => absurd zq (nI_ge (by omega) (by omega))) (fun _ => ?_)
      refine rf_G.step (pc' := 29) (st' := [_]) rfl rfl ?_
      refine rf_G.step (pc' := 30) (st' := [_, _]) rfl rfl ?_
      refine rf_G.step (pc' := 31) (st' := [_, _, _]) rfl rfl ?_
      refine rf_G.step (pc' := 32) (st' := [_, _, _, _]) rfl rfl ?_
      refine rf_G.v3I H rfl (by decide) rfl ⟨Nat.le_of_ble_eq_true rfl, rfl⟩ (Nat.le_of_ble_eq_true rfl) (cm0) (fun h H => ?_)
      refine rf_G.step (pc' := 37) (ls' := [_, _, _, _, _, _, _, _]) (st' := []) rfl rfl ?_
      refine rf_G.step (pc' := 38) (st' := [_]) rfl rfl ?_
      refine rf_G.step (pc' := 39) (st' := [_, _]) rfl rfl ?_
      refine rf_G.step (pc' := 40) (st' := [_, _, _]) rfl rfl ?_
      refine rf_G.step (pc' := 41) (st' := [_, _, _, _]) rfl rfl ?_
      refine rf_G.v3I H rfl (by decide) rfl ⟨Nat.le_of_ble_eq_true rfl, rfl⟩ (Nat.le_of_ble_eq_true rfl) (cm1) (fun h H => ?_)
      refine rf_G.step (pc' := 46) (ls' := [_, _, _, _, _, _, _, _]) (st' := []) rfl rfl ?_
      refine rf_G.step (pc' := 47) (st' := [_]) rfl rfl ?_
      refine rf_G.step (pc' := 48) (st' := [_, _]) rfl rfl ?_
      refine rf_G.step (pc' := 49) (st' := [_, _, _]) rfl rfl ?_
      refine rf_G.step (pc' := 50) (st' := [_, _, _, _]) rfl rfl ?_
      refine rf_G.v3I H rfl (by decide) rfl ⟨Nat.le_of_ble_eq_true rfl, rfl⟩ (Nat.le_of_ble_eq_true rfl) (cm2) (fun h H => ?_)
      refine rf_G.step (pc' := 54) (st' := [_]) rfl rfl ?_
      refine rf_G.step (pc' := 56) (ls' := [_, _, _, _, _, _, _, _]) (st' := []) rfl rfl ?_
      refine rf_G.step (pc' := 57) (st' := [_]) rfl rfl ?_
      refine rf_G.step (pc' := 58) (st' := [_, _]) rfl rfl ?_
      refine rf_G.putI H rfl rfl (by decide) rfl (fun h H => ?_)
      exact gg h H
    by_cases z : jd_1 (R.1 0) n k g
    · rw [if_pos z]
      refine ⟨rf_sI R1 20 (nI k), ⟨kJ.tr rf_kJ.I, rfl, hg⟩, head _ _ (fun h H => ?_)⟩
      refine rf_G.step (pc' := 62) (st' := [_]) rfl rfl ?_
      refine rf_G.get H rfl rfl ?_
      refine rf_G.step (pc' := 67) (st' := [_, _]) rfl rfl ?_
      refine rf_G.lald H 19 9 12 (by decide) rfl (rf_ix (by omega) (by decide)) ?_
      rw [nI_clamp (by omega), g19 _ (by omega)]
      refine rf_G.step (pc' := 70) (st' := [_, _]) rfl rfl ?_
      refine rf_G.step (pc' := 71) (st' := [_]) rfl rfl ?_
      refine rf_G.step (pc' := 72) (st' := [_, _]) rfl rfl ?_
      refine rf_G.step (pc' := 74) (st' := [_, _, _]) rfl rfl ?_
      refine rf_G.v1I H rfl (by decide) rfl ⟨Nat.le_of_ble_eq_true rfl, rfl⟩ (Nat.le_of_ble_eq_true rfl) (ta) (fun h H => ?_)
      refine rf_G.step (pc' := 78) (st' := [_, _]) rfl rfl ?_
      refine rf_G.step (pc' := 79) (st' := [_]) rfl rfl ?_
      by_cases z1 : (rf_total (R.1 0) (jd_a (R.1 0) n k)).toInt64 < g (jd_a (R.1 0) n k) + jd_h (R.1 0) n k
      · refine rf_G.br rfl (jx_br_gt _ _) (fun _ => ?_) (fun zq => absurd ((lg_cmp_gt0 _ _).mpr z1) zq)
        exact one h H
      · refine rf_G.br rfl (jx_br_gt _ _) (fun zq => absurd zq (fun y => z1 ((lg_cmp_gt0 _ _).mp y))) (fun _ => ?_)
        refine rf_G.step (pc' := 83) (st' := [_]) rfl rfl ?_
        refine rf_G.get H rfl rfl ?_
        refine rf_G.step (pc' := 88) (st' := [_, _]) rfl rfl ?_
        refine rf_G.lald H 19 9 12 (by decide) rfl (rf_ix (by omega) (by decide)) ?_
        rw [nI_clamp (by omega), g19 _ (by omega)]
        refine rf_G.step (pc' := 91) (st' := [_, _]) rfl rfl ?_
        refine rf_G.step (pc' := 92) (st' := [_]) rfl rfl ?_
        refine rf_G.step (pc' := 93) (st' := [_, _]) rfl rfl ?_
        refine rf_G.step (pc' := 95) (st' := [_, _, _]) rfl rfl ?_
        refine rf_G.v1I H rfl (by decide) rfl ⟨Nat.le_of_ble_eq_true rfl, rfl⟩ (Nat.le_of_ble_eq_true rfl) (tc) (fun h H => ?_)
        refine rf_G.step (pc' := 99) (st' := [_, _]) rfl rfl ?_
        refine rf_G.step (pc' := 100) (st' := [_]) rfl rfl ?_
        refine rf_G.br rfl (jx_br_le _ _) (fun zq => absurd zq (Int32.not_le.mpr ((lg_cmp_gt0 _ _).mpr (z.resolve_left z1)))) (fun _ => ?_)
        exact one h H
    rw [if_neg z]
    have go : ∀ v R2, (∀ h, rf_At r R3 h → rf_G r 182 145 [.ref r, .int (nI n), .int (nI many), .int (nI k), .int (nI (jd_a (R.1 0) n k)), .int (nI (jd_c (R.1 0) n k)), .long (jd_h (R.1 0) n k), .retAddr 0] [.long ((R.1 0 1).toInt64 * (jd_ms (R.1 0) n k g).2), .long (jd_ms (R.1 0) n k g).1] h v R2) → ∀ h, rf_At r R1 h → rf_G r 182 23 [.ref r, .int (nI n), .int (nI many), .int (nI k), u4, u5, u6, u7] [] h v R2 := by
      intro v R2 gg
      refine head v R2 (fun h H => ?_)
      have e1 : R3.1 0 (Int32.toNatClampNeg 1) = R.1 0 1 := by rw [n3]; rfl
      refine rf_G.step (pc' := 62) (st' := [_]) rfl rfl ?_
      refine rf_G.get H rfl rfl ?_
      refine rf_G.step (pc' := 67) (st' := [_, _]) rfl rfl ?_
      refine rf_G.lald H 19 9 12 (by decide) rfl (rf_ix (by omega) (by decide)) ?_
      rw [nI_clamp (by omega), g19 _ (by omega)]
      refine rf_G.step (pc' := 70) (st' := [_, _]) rfl rfl ?_
      refine rf_G.step (pc' := 71) (st' := [_]) rfl rfl ?_
      refine rf_G.step (pc' := 72) (st' := [_, _]) rfl rfl ?_
      refine rf_G.step (pc' := 74) (st' := [_, _, _]) rfl rfl ?_
      refine rf_G.v1I H rfl (by decide) rfl ⟨Nat.le_of_ble_eq_true rfl, rfl⟩ (Nat.le_of_ble_eq_true rfl) (ta) (fun h H => ?_)
      refine rf_G.step (pc' := 78) (st' := [_, _]) rfl rfl ?_
      refine rf_G.step (pc' := 79) (st' := [_]) rfl rfl ?_
      refine rf_G.br rfl (jx_br_gt _ _) (fun zq => absurd zq (fun y => z (Or.inl ((lg_cmp_gt0 _ _).mp y)))) (fun _ => ?_)
      refine rf_G.step (pc' := 83) (st' := [_]) rfl rfl ?_
      refine rf_G.get H rfl rfl ?_
      refine rf_G.step (pc' := 88) (st' := [_, _]) rfl rfl ?_
      refine rf_G.lald H 19 9 12 (by decide) rfl (rf_ix (by omega) (by decide)) ?_
      rw [nI_clamp (by omega), g19 _ (by omega)]
      refine rf_G.step (pc' := 91) (st' := [_, _]) rfl rfl ?_
      refine rf_G.step (pc' := 92) (st' := [_]) rfl rfl ?_
      refine rf_G.step (pc' := 93) (st' := [_, _]) rfl rfl ?_
      refine rf_G.step (pc' := 95) (st' := [_, _, _]) rfl rfl ?_
      refine rf_G.v1I H rfl (by decide) rfl ⟨Nat.le_of_ble_eq_true rfl, rfl⟩ (Nat.le_of_ble_eq_true rfl) (tc) (fun h H => ?_)
      refine rf_G.step (pc' := 99) (st' := [_, _]) rfl rfl ?_
      refine rf_G.step (pc' := 100) (st' := [_]) rfl rfl ?_
      refine rf_G.br rfl (jx_br_le _ _) (fun _ => ?_) (fun zq => absurd (Int32.not_lt.mp (fun y => z (Or.inr ((lg_cmp_gt0 _ _).mp y)))) zq)
      refine rf_G.step (pc' := 106) (st' := [_]) rfl rfl ?_
      refine rf_G.step (pc' := 108) (st' := [_, _]) rfl rfl ?_
      refine rf_G.step (pc' := 109) (st' := [_, _, _]) rfl rfl ?_
      refine rf_G.get H rfl rfl ?_
      refine rf_G.step (pc' := 114) (st' := [_, _, _, _]) rfl rfl ?_
      refine rf_G.lald H 19 9 12 (by decide) rfl (rf_ix (by omega) (by decide)) ?_
      rw [nI_clamp (by omega), g19 _ (by omega)]
      refine rf_G.step (pc' := 117) (st' := [_, _, _, _]) rfl rfl ?_
      refine rf_G.step (pc' := 118) (st' := [_, _, _, _, _]) rfl rfl ?_
      refine rf_G.get H rfl rfl ?_
      refine rf_G.step (pc' := 123) (st' := [_, _, _, _, _, _]) rfl rfl ?_
      refine rf_G.lald H 19 9 12 (by decide) rfl (rf_ix (by omega) (by decide)) ?_
      rw [nI_clamp (by omega), g19 _ (by omega)]
      refine rf_G.step (pc' := 126) (st' := [_, _, _, _, _, _]) rfl rfl ?_
      refine rf_G.v5V H rfl (by decide) rfl ⟨Nat.le_of_ble_eq_true rfl, rfl⟩ (Nat.le_of_ble_eq_true rfl) (c3) (fun h H => ?_)
      refine rf_G.step (pc' := 130) (st' := [_]) rfl rfl ?_
      refine rf_G.get H rfl rfl ?_
      rw [e17]
      refine rf_G.step (pc' := 134) (st' := [_, _]) rfl rfl ?_
      refine rf_G.get H rfl rfl ?_
      refine rf_G.step (pc' := 138) (st' := [_, _, _]) rfl rfl ?_
      refine rf_G.iald H 0 1 822 (by decide) rfl (rf_ix (n := 1) (by decide) (by decide)) ?_
      rw [e1]
      refine rf_G.step (pc' := 140) (st' := [_, _]) rfl rfl ?_
      refine rf_G.step (pc' := 141) (st' := [_, _, _]) rfl rfl ?_
      refine rf_G.get H rfl rfl ?_
      rw [e18]
      refine rf_G.step (pc' := 145) (st' := [_, _]) rfl rfl ?_
      exact gg h H
    by_cases y : (jd_ms (R.1 0) n k g).1 < (R.1 0 1).toInt64 * (jd_ms (R.1 0) n k g).2
    · rw [if_pos y]
      refine ⟨R3, ⟨K3, w3, g3⟩, go _ _ (fun h H => ?_)⟩
      refine rf_G.step (pc' := 146) (st' := [_]) rfl rfl ?_
      refine rf_G.br rfl (jx_br_ge _ _) (fun zq => absurd zq (Int32.not_le.mpr ((lg_cmp_lt0 _ _).mpr y))) (fun _ => ?_)
      refine rf_G.step (pc' := 150) (st' := [_]) rfl rfl ?_
      exact rf_G.ret H rfl rfl
    rw [if_neg y]
    have K5 : rf_kJ R (rf_sB (rf_sB R3 19 (vp_updL (R3.2.1 19) (jd_a (R.1 0) n k) (R3.2.1 19 (jd_a (R.1 0) n k) + jd_h (R.1 0) n k))) 19 (vp_updL (vp_updL (R3.2.1 19) (jd_a (R.1 0) n k) (R3.2.1 19 (jd_a (R.1 0) n k) + jd_h (R.1 0) n k)) (jd_c (R.1 0) n k) (vp_updL (R3.2.1 19) (jd_a (R.1 0) n k) (R3.2.1 19 (jd_a (R.1 0) n k) + jd_h (R.1 0) n k) (jd_c (R.1 0) n k) + jd_h (R.1 0) n k))) := (K3.tr rf_kJ.B).tr rf_kJ.B
    obtain ⟨R2, f, gg⟩ := ih (k + 1) (jd_g g (jd_a (R.1 0) n k) (jd_c (R.1 0) n k) (jd_h (R.1 0) n k)) _ (.int (nI (jd_a (R.1 0) n k))) (.int (nI (jd_c (R.1 0) n k))) (.long (jd_h (R.1 0) n k)) (.retAddr 0) (by omega) K5 (fun s hs => by
      show vp_updL (vp_updL (R3.2.1 19) (jd_a (R.1 0) n k) (R3.2.1 19 (jd_a (R.1 0) n k) + jd_h (R.1 0) n k)) (jd_c (R.1 0) n k) (vp_updL (R3.2.1 19) (jd_a (R.1 0) n k) (R3.2.1 19 (jd_a (R.1 0) n k) + jd_h (R.1 0) n k) (jd_c (R.1 0) n k) + jd_h (R.1 0) n k) s = _
      unfold jd_g vp_updL
      rw [g3 _ (show jd_a (R.1 0) n k < 12 by omega), g3 _ (show jd_c (R.1 0) n k < 12 by omega), g3 s hs])
    refine ⟨R2, f, go _ _ (fun h H => ?_)⟩
    refine rf_G.step (pc' := 146) (st' := [_]) rfl rfl ?_
    refine rf_G.br rfl (jx_br_ge _ _) (fun _ => ?_) (fun zq => absurd (Int32.not_lt.mp (fun x => y ((lg_cmp_lt0 _ _).mp x))) zq)
    refine rf_G.step (pc' := 152) (st' := [_]) rfl rfl ?_
    refine rf_G.get H rfl rfl ?_
    refine rf_G.step (pc' := 157) (st' := [_, _]) rfl rfl ?_
    refine rf_G.step (pc' := 158) (st' := [_, _, _, _]) rfl rfl ?_
    refine rf_G.lald H 19 9 12 (by decide) rfl (rf_ix (by omega) (by decide)) ?_
    refine rf_G.step (pc' := 161) (st' := [_, _, _, _]) rfl rfl ?_
    refine rf_G.step (pc' := 162) (st' := [_, _, _]) rfl rfl ?_
    rw [nI_clamp (by omega)]
    refine rf_G.last H 19 9 12 (by decide) rfl (rf_ix (by omega) (by decide)) (fun h H => ?_)
    rw [nI_clamp (by omega)] at H
    refine rf_G.step (pc' := 164) (st' := [_]) rfl rfl ?_
    refine rf_G.get H rfl rfl ?_
    refine rf_G.step (pc' := 169) (st' := [_, _]) rfl rfl ?_
    refine rf_G.step (pc' := 170) (st' := [_, _, _, _]) rfl rfl ?_
    refine rf_G.lald H 19 9 12 (by decide) rfl (rf_ix (by omega) (by decide)) ?_
    refine rf_G.step (pc' := 173) (st' := [_, _, _, _]) rfl rfl ?_
    refine rf_G.step (pc' := 174) (st' := [_, _, _]) rfl rfl ?_
    rw [nI_clamp (by omega)]
    refine rf_G.last H 19 9 12 (by decide) rfl (rf_ix (by omega) (by decide)) (fun h H => ?_)
    rw [nI_clamp (by omega)] at H
    refine rf_G.step (pc' := 178) (ls' := [_, _, _, _, _, _, _, _]) (st' := []) rfl rfl ?_
    refine rf_G.step (pc' := 23) (st' := []) rfl rfl ?_
    rw [nI_1]
    exact gg h H
def jd_at (N : Nat → Int32) (n many : Nat) : Int32 × Int32 × (Nat → Int64) := jd_lp N n many 0 (fun _ => 0)
theorem rc_judges (r : Nat) (R : rf_R) (M n many : Nat) (P : rf_Pre R M 0) (hn : n < 4) (hm : many ≤ 20) (ok : jd_ok (R.1 0) M n many) : ∃ R2, rf_C 182 r [.ref r, .int (nI n), .int (nI many)] R (some (.int (jd_at (R.1 0) n many).1)) R2 ∧ rf_kJ R R2 ∧ R2.2.2.1 20 = (jd_at (R.1 0) n many).2.1 ∧ ∀ s, s < 12 → R2.2.1 19 s = (jd_at (R.1 0) n many).2.2 s := by
  have loop : ∀ d k R1, k + d = 12 → rf_kJ R R1 → (∀ s, s < k → R1.2.1 19 s = 0) → ∃ R2, (rf_kJ R R2 ∧ R2.2.2.1 20 = (jd_at (R.1 0) n many).2.1 ∧ ∀ s, s < 12 → R2.2.1 19 s = (jd_at (R.1 0) n many).2.2 s) ∧ ∀ h, rf_At r R1 h → rf_G r 182 2 [.ref r, .int (nI n), .int (nI many), .int (nI k), .retAddr 0, .retAddr 0, .retAddr 0, .retAddr 0] [] h (some (.int (jd_at (R.1 0) n many).1)) R2 := by
    intro d
    induction d with
    | zero =>
      intro k R1 hk kJ hz
      obtain rfl : k = 12 := by omega
      obtain ⟨R2, f, g⟩ := rc_judges_loop r R M n many P hn hm ok many 0 (fun _ => 0) R1 (.retAddr 0) (.retAddr 0) (.retAddr 0) (.retAddr 0) (by omega) kJ hz
      refine ⟨R2, f, fun h H => ?_⟩
      refine rf_G.step (pc' := 3) (st' := [_]) rfl rfl ?_
      refine rf_G.step (pc' := 5) (st' := [_, _]) rfl rfl ?_
      refine rf_G.bc rfl (jx_br_ge _ _) (fun _ => ?_) (fun zq => absurd (Int32.le_refl _) zq)
      refine rf_G.step (pc' := 22) (st' := [_]) rfl rfl ?_
      refine rf_G.step (pc' := 23) (ls' := [_, _, _, _, _, _, _, _]) (st' := []) rfl rfl ?_
      exact g h H
    | succ d ih =>
      intro k R1 hk kJ hz
      obtain ⟨R2, f, g⟩ := ih (k + 1) (rf_sB R1 19 (vp_updL (R1.2.1 19) k 0)) (by omega) (kJ.tr rf_kJ.B) (fun s hs => by
        show vp_updL (R1.2.1 19) k 0 s = 0
        unfold vp_updL
        by_cases e : s = k
        · rw [if_pos e]
        · rw [if_neg e]
          exact hz s (by omega))
      refine ⟨R2, f, fun h H => ?_⟩
      refine rf_G.step (pc' := 3) (st' := [_]) rfl rfl ?_
      refine rf_G.step (pc' := 5) (st' := [_, _]) rfl rfl ?_
      rw [rf_lit 12]
      refine rf_G.bc rfl (jx_br_ge _ _) (fun zq => absurd zq (nI_ge (by omega) (by omega))) (fun _ => ?_)
      refine rf_G.step (pc' := 9) (st' := [_]) rfl rfl ?_
      refine rf_G.get H rfl rfl ?_
      refine rf_G.step (pc' := 13) (st' := [_, _]) rfl rfl ?_
      refine rf_G.step (pc' := 14) (st' := [_, _, _]) rfl rfl ?_
      refine rf_G.last H 19 9 12 (by decide) rfl (rf_ix (by omega) (by decide)) (fun h H => ?_)
      rw [nI_clamp (by omega)] at H
      refine rf_G.step (pc' := 18) (ls' := [_, _, _, _, _, _, _, _]) (st' := []) rfl rfl ?_
      refine rf_G.step (pc' := 2) (st' := []) rfl rfl ?_
      rw [nI_1]
      exact g h H
  obtain ⟨R2, f, g⟩ := loop 12 0 R (by omega) rf_kJ.rf (fun s hs => absurd hs (by omega))
  refine ⟨R2, ?_, f⟩
  intro h H
  show rf_G r 182 0 [.ref r, .int (nI n), .int (nI many), .retAddr 0, .retAddr 0, .retAddr 0, .retAddr 0, .retAddr 0] [] h _ _
  refine rf_G.step (pc' := 1) (st' := [_]) rfl rfl ?_
  refine rf_G.step (pc' := 2) (ls' := [_, _, _, _, _, _, _, _]) (st' := []) rfl rfl ?_
  exact g h H
