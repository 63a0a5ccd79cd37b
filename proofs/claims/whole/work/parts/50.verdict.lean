/-! the reference: verdict, closest -/
theorem rc_verdict_no (r : Nat) (R : rf_R) (n : Int32) (hn : ¬ (0 ≤ n.toInt ∧ n.toInt ≤ 3)) : rf_C 181 r [.ref r, .int n] R (some (.int (-1))) R := by
  intro h H
  show rf_G r 181 0 [.ref r, .int n, .retAddr 0, .retAddr 0] [] h _ _
  refine rf_G.step (pc' := 1) (st' := [_]) rfl rfl ?_
  refine rf_G.step (pc' := 2) (st' := [_, _]) rfl rfl ?_
  refine rf_G.v1I H rfl (by decide) rfl ⟨Nat.le_of_ble_eq_true rfl, rfl⟩ (Nat.le_of_ble_eq_true rfl) (rc_isNet r R n) (fun h H => ?_)
  refine rf_G.brn rfl (fun zq => absurd ((rf_o_0 _).mpr hn) zq) (fun _ => ?_)
  refine rf_G.step (pc' := 9) (st' := [_]) rfl rfl ?_
  exact rf_G.ret H rfl rfl
/-- what is left to buy: of heat, of cold -/
def vd_s (N : Nat → Int32) (g : Nat → Int64) : Nat → Int64 × Int64
  | 0 => (0, 0)
  | s + 1 => if 3 ≤ N (2 + 24 * s) then vd_s N g s else if N (2 + 24 * s + 1) = 1 then ((vd_s N g s).1, (vd_s N g s).2 + ((rf_total N s).toInt64 - g s)) else ((vd_s N g s).1 + ((rf_total N s).toInt64 - g s), (vd_s N g s).2)
/-- all but what verdict tells -/
def rf_kV (R R2 : rf_R) : Prop := R2.1 0 = R.1 0 ∧ R2.1 1 = R.1 1 ∧ (∀ k, (k ≤ 6 ∨ k = 39) → R2.2.2.1 k = R.2.2.1 k) ∧ R2.1 28 0 = R.1 28 0
theorem rf_J.V {R R2 : rf_R} (a : rf_J R R2) : rf_kV R R2 := ⟨a.1, a.2.1, fun k h => a.2.2.1 k (by omega), a.2.2.2.2⟩
theorem rf_kV.tr {R R2 R3 : rf_R} (a : rf_kV R R2) (b : rf_kV R2 R3) : rf_kV R R3 := ⟨b.1.trans a.1, b.2.1.trans a.2.1, fun k h => (b.2.2.1 k h).trans (a.2.2.1 k h), b.2.2.2.trans a.2.2.2⟩
theorem rf_kV.L {R : rf_R} {k : Nat} {x : Int64} : rf_kV R (rf_sL R k x) := ⟨rfl, rfl, fun _ _ => rfl, rfl⟩
theorem rf_kV.I {R : rf_R} {x : Int32} : rf_kV R (rf_sI R 24 x) := ⟨rfl, rfl, fun k h => if_neg (by omega), rfl⟩
theorem rf_kV.pre {R R2 : rf_R} {M E : Nat} (j : rf_kV R R2) (P : rf_Pre R M E) : rf_Pre R2 M E := ⟨P.hM, P.hE, by rw [j.1]; exact P.eM, by rw [j.2.2.1 6 (by decide)]; exact P.eE, by rw [j.1]; exact P.ok⟩
/-- what verdict tells: told meeting, heat and cold to buy, meetings -/
def vd_t (N : Nat → Int32) (M n t : Nat) : Int32 × Int64 × Int64 × Int64 := (if 0 < (jd_at N n t).1 then (jd_at N n t).2.1 else -1, if 0 < (jd_at N n t).1 then -1 else (vd_s N (jd_at N n t).2.2 M).1, if 0 < (jd_at N n t).1 then -1 else (vd_s N (jd_at N n t).2.2 M).2, (nI t).toInt64)
def rf_tells (R : rf_R) (q : Int32 × Int64 × Int64 × Int64) : Prop := R.2.2.1 24 = q.1 ∧ R.2.2.2 21 = q.2.1 ∧ R.2.2.2 22 = q.2.2.1 ∧ R.2.2.2 23 = q.2.2.2
theorem rc_vd_loop (r : Nat) (R : rf_R) (M : Nat) (P : rf_Pre R M 0) (n v : Int32) (g : Nat → Int64) (hg : ∀ s, s < 12 → R.2.1 19 s = g s) : ∀ d s R1, s + d = M → rf_kV R R1 → R1.2.1 = R.2.1 → R1.2.2.1 24 = R.2.2.1 24 → R1.2.2.2 23 = R.2.2.2 23 → R1.2.2.2 21 = (vd_s (R.1 0) g s).1 → R1.2.2.2 22 = (vd_s (R.1 0) g s).2 → ∃ R2, (rf_kV R R2 ∧ rf_tells R2 (R.2.2.1 24, (vd_s (R.1 0) g M).1, (vd_s (R.1 0) g M).2, R.2.2.2 23)) ∧ ∀ h, rf_At r R1 h → rf_G r 181 79 [.ref r, .int n, .int v, .int (nI s)] [] h (some (.int 0)) R2 := by
  have hM := P.hM
  intro d
  induction d with
  | zero =>
    intro s R1 hs k1 b1 e24 e23 e21 e22
    obtain rfl : s = M := by omega
    have P1 := k1.pre P
    refine ⟨R1, ⟨k1, e24, e21, e22, e23⟩, fun h H => ?_⟩
    have eM : R1.1 0 (Int32.toNatClampNeg 0) = nI s := P1.eM
    refine rf_G.step (pc' := 80) (st' := [_]) rfl rfl ?_
    refine rf_G.step (pc' := 81) (st' := [_, _]) rfl rfl ?_
    refine rf_G.get H rfl rfl ?_
    refine rf_G.step (pc' := 85) (st' := [_, _, _]) rfl rfl ?_
    refine rf_G.iald H 0 1 822 (by decide) rfl (rf_ix (n := 0) (by decide) (by decide)) ?_
    rw [eM]
    refine rf_G.bc rfl (jx_br_ge _ _) (fun _ => ?_) (fun zq => absurd (Int32.le_refl _) zq)
    refine rf_G.step (pc' := 166) (st' := [_]) rfl rfl ?_
    exact rf_G.ret H rfl rfl
  | succ d ih =>
    intro s R1 hs k1 b1 e24 e23 e21 e22
    have P1 := k1.pre P
    have eM : R1.1 0 (Int32.toNatClampNeg 0) = nI M := P1.eM
    have eN := k1.1
    have hs2 : s < 12 := by omega
    have c0 := rc_of r R1 s 0 hs2 (by decide)
    have c1 := rc_of r R1 s 1 hs2 (by decide)
    have ct := rc_totalP r P1 s (by omega)
    rw [eN] at c0 c1 ct
    rw [Nat.add_zero] at c0
    have eg : R1.2.1 19 s = g s := by rw [b1]; exact hg s hs2
    by_cases z : 3 ≤ R.1 0 (2 + 24 * s)
    · have eu : vd_s (R.1 0) g (s + 1) = vd_s (R.1 0) g s := by
        conv => lhs; unfold vd_s
        rw [if_pos z]
      obtain ⟨R2, f, gg⟩ := ih (s + 1) R1 (by omega) k1 b1 e24 e23 (by rw [eu]; exact e21) (by rw [eu]; exact e22)
      refine ⟨R2, f, fun h H => ?_⟩
      refine rf_G.step (pc' := 80) (st' := [_]) rfl rfl ?_
      refine rf_G.step (pc' := 81) (st' := [_, _]) rfl rfl ?_
      refine rf_G.get H rfl rfl ?_
      refine rf_G.step (pc' := 85) (st' := [_, _, _]) rfl rfl ?_
      refine rf_G.iald H 0 1 822 (by decide) rfl (rf_ix (n := 0) (by decide) (by decide)) ?_
      rw [eM]
      refine rf_G.bc rfl (jx_br_ge _ _) (fun zq => absurd zq (nI_ge (by omega) (by omega))) (fun _ => ?_)
      refine rf_G.step (pc' := 90) (st' := [_]) rfl rfl ?_
      refine rf_G.step (pc' := 91) (st' := [_, _]) rfl rfl ?_
      refine rf_G.step (pc' := 92) (st' := [_, _, _]) rfl rfl ?_
      refine rf_G.v2I H rfl (by decide) rfl ⟨Nat.le_of_ble_eq_true rfl, rfl⟩ (Nat.le_of_ble_eq_true rfl) (c0) (fun h H => ?_)
      refine rf_G.step (pc' := 96) (st' := [_, _]) rfl rfl ?_
      refine rf_G.bc rfl (jx_br_lt _ _) (fun zq => absurd zq (Int32.not_lt.mpr z)) (fun _ => ?_)
      refine rf_G.step (pc' := 159) (st' := []) rfl rfl ?_
      refine rf_G.step (pc' := 162) (ls' := [_, _, _, _]) (st' := []) rfl rfl ?_
      refine rf_G.step (pc' := 79) (st' := []) rfl rfl ?_
      rw [nI_1]
      exact gg h H
    · by_cases y : R.1 0 (2 + 24 * s + 1) = 1
      · have eu : vd_s (R.1 0) g (s + 1) = ((vd_s (R.1 0) g s).1, (vd_s (R.1 0) g s).2 + ((rf_total (R.1 0) s).toInt64 - g s)) := by
          conv => lhs; unfold vd_s
          rw [if_neg z, if_pos y]
        obtain ⟨R2, f, gg⟩ := ih (s + 1) (rf_sL R1 22 ((vd_s (R.1 0) g s).2 + ((rf_total (R.1 0) s).toInt64 - g s))) (by omega) (k1.tr rf_kV.L) b1 e24 e23 (by rw [eu]; exact e21) (by rw [eu]; rfl)
        refine ⟨R2, f, fun h H => ?_⟩
        refine rf_G.step (pc' := 80) (st' := [_]) rfl rfl ?_
        refine rf_G.step (pc' := 81) (st' := [_, _]) rfl rfl ?_
        refine rf_G.get H rfl rfl ?_
        refine rf_G.step (pc' := 85) (st' := [_, _, _]) rfl rfl ?_
        refine rf_G.iald H 0 1 822 (by decide) rfl (rf_ix (n := 0) (by decide) (by decide)) ?_
        rw [eM]
        refine rf_G.bc rfl (jx_br_ge _ _) (fun zq => absurd zq (nI_ge (by omega) (by omega))) (fun _ => ?_)
        refine rf_G.step (pc' := 90) (st' := [_]) rfl rfl ?_
        refine rf_G.step (pc' := 91) (st' := [_, _]) rfl rfl ?_
        refine rf_G.step (pc' := 92) (st' := [_, _, _]) rfl rfl ?_
        refine rf_G.v2I H rfl (by decide) rfl ⟨Nat.le_of_ble_eq_true rfl, rfl⟩ (Nat.le_of_ble_eq_true rfl) (c0) (fun h H => ?_)
        refine rf_G.step (pc' := 96) (st' := [_, _]) rfl rfl ?_
        refine rf_G.bc rfl (jx_br_lt _ _) (fun _ => ?_) (fun zq => absurd (Int32.not_le.mp z) zq)
        refine rf_G.step (pc' := 103) (st' := [_]) rfl rfl ?_
        refine rf_G.step (pc' := 104) (st' := [_, _]) rfl rfl ?_
        refine rf_G.step (pc' := 105) (st' := [_, _, _]) rfl rfl ?_
        refine rf_G.v2I H rfl (by decide) rfl ⟨Nat.le_of_ble_eq_true rfl, rfl⟩ (Nat.le_of_ble_eq_true rfl) (c1) (fun h H => ?_)
        refine rf_G.step (pc' := 109) (st' := [_, _]) rfl rfl ?_
        refine rf_G.bcn rfl (fun zq => absurd (y) zq) (fun _ => ?_)
        refine rf_G.step (pc' := 113) (st' := [_]) rfl rfl ?_
        refine rf_G.step (pc' := 114) (st' := [_, _]) rfl rfl ?_
        refine rf_G.get H rfl rfl ?_
        rw [e22]
        refine rf_G.step (pc' := 118) (st' := [_, _, _]) rfl rfl ?_
        refine rf_G.step (pc' := 119) (st' := [_, _, _, _]) rfl rfl ?_
        refine rf_G.v1I H rfl (by decide) rfl ⟨Nat.le_of_ble_eq_true rfl, rfl⟩ (Nat.le_of_ble_eq_true rfl) (ct) (fun h H => ?_)
        refine rf_G.step (pc' := 123) (st' := [_, _, _]) rfl rfl ?_
        refine rf_G.step (pc' := 124) (st' := [_, _, _, _]) rfl rfl ?_
        refine rf_G.get H rfl rfl ?_
        refine rf_G.step (pc' := 128) (st' := [_, _, _, _, _]) rfl rfl ?_
        refine rf_G.lald H 19 9 12 (by decide) rfl (rf_ix (by omega) (by decide)) ?_
        rw [nI_clamp (by omega), eg]
        refine rf_G.step (pc' := 130) (st' := [_, _, _]) rfl rfl ?_
        refine rf_G.step (pc' := 131) (st' := [_, _]) rfl rfl ?_
        refine rf_G.putL H rfl rfl (by decide) rfl (fun h H => ?_)
        refine rf_G.step (pc' := 159) (st' := []) rfl rfl ?_
        refine rf_G.step (pc' := 162) (ls' := [_, _, _, _]) (st' := []) rfl rfl ?_
        refine rf_G.step (pc' := 79) (st' := []) rfl rfl ?_
        rw [nI_1]
        exact gg h H
      · have eu : vd_s (R.1 0) g (s + 1) = ((vd_s (R.1 0) g s).1 + ((rf_total (R.1 0) s).toInt64 - g s), (vd_s (R.1 0) g s).2) := by
          conv => lhs; unfold vd_s
          rw [if_neg z, if_neg y]
        obtain ⟨R2, f, gg⟩ := ih (s + 1) (rf_sL R1 21 ((vd_s (R.1 0) g s).1 + ((rf_total (R.1 0) s).toInt64 - g s))) (by omega) (k1.tr rf_kV.L) b1 e24 e23 (by rw [eu]; rfl) (by rw [eu]; exact e22)
        refine ⟨R2, f, fun h H => ?_⟩
        refine rf_G.step (pc' := 80) (st' := [_]) rfl rfl ?_
        refine rf_G.step (pc' := 81) (st' := [_, _]) rfl rfl ?_
        refine rf_G.get H rfl rfl ?_
        refine rf_G.step (pc' := 85) (st' := [_, _, _]) rfl rfl ?_
        refine rf_G.iald H 0 1 822 (by decide) rfl (rf_ix (n := 0) (by decide) (by decide)) ?_
        rw [eM]
        refine rf_G.bc rfl (jx_br_ge _ _) (fun zq => absurd zq (nI_ge (by omega) (by omega))) (fun _ => ?_)
        refine rf_G.step (pc' := 90) (st' := [_]) rfl rfl ?_
        refine rf_G.step (pc' := 91) (st' := [_, _]) rfl rfl ?_
        refine rf_G.step (pc' := 92) (st' := [_, _, _]) rfl rfl ?_
        refine rf_G.v2I H rfl (by decide) rfl ⟨Nat.le_of_ble_eq_true rfl, rfl⟩ (Nat.le_of_ble_eq_true rfl) (c0) (fun h H => ?_)
        refine rf_G.step (pc' := 96) (st' := [_, _]) rfl rfl ?_
        refine rf_G.bc rfl (jx_br_lt _ _) (fun _ => ?_) (fun zq => absurd (Int32.not_le.mp z) zq)
        refine rf_G.step (pc' := 103) (st' := [_]) rfl rfl ?_
        refine rf_G.step (pc' := 104) (st' := [_, _]) rfl rfl ?_
        refine rf_G.step (pc' := 105) (st' := [_, _, _]) rfl rfl ?_
        refine rf_G.v2I H rfl (by decide) rfl ⟨Nat.le_of_ble_eq_true rfl, rfl⟩ (Nat.le_of_ble_eq_true rfl) (c1) (fun h H => ?_)
        refine rf_G.step (pc' := 109) (st' := [_, _]) rfl rfl ?_
        refine rf_G.bcn rfl (fun _ => ?_) (fun zq => absurd zq (y))
        refine rf_G.step (pc' := 138) (st' := [_]) rfl rfl ?_
        refine rf_G.step (pc' := 139) (st' := [_, _]) rfl rfl ?_
        refine rf_G.get H rfl rfl ?_
        rw [e21]
        refine rf_G.step (pc' := 143) (st' := [_, _, _]) rfl rfl ?_
        refine rf_G.step (pc' := 144) (st' := [_, _, _, _]) rfl rfl ?_
        refine rf_G.v1I H rfl (by decide) rfl ⟨Nat.le_of_ble_eq_true rfl, rfl⟩ (Nat.le_of_ble_eq_true rfl) (ct) (fun h H => ?_)
        refine rf_G.step (pc' := 148) (st' := [_, _, _]) rfl rfl ?_
        refine rf_G.step (pc' := 149) (st' := [_, _, _, _]) rfl rfl ?_
        refine rf_G.get H rfl rfl ?_
        refine rf_G.step (pc' := 153) (st' := [_, _, _, _, _]) rfl rfl ?_
        refine rf_G.lald H 19 9 12 (by decide) rfl (rf_ix (by omega) (by decide)) ?_
        rw [nI_clamp (by omega), eg]
        refine rf_G.step (pc' := 155) (st' := [_, _, _]) rfl rfl ?_
        refine rf_G.step (pc' := 156) (st' := [_, _]) rfl rfl ?_
        refine rf_G.putL H rfl rfl (by decide) rfl (fun h H => ?_)
        refine rf_G.step (pc' := 162) (ls' := [_, _, _, _]) (st' := []) rfl rfl ?_
        refine rf_G.step (pc' := 79) (st' := []) rfl rfl ?_
        rw [nI_1]
        exact gg h H
theorem jd_code (N : Nat → Int32) (n : Nat) : ∀ d k g, (jd_lp N n d k g).1 = 0 ∨ (jd_lp N n d k g).1 = 1 ∨ (jd_lp N n d k g).1 = 2
  | 0, _, _ => Or.inl rfl
  | d + 1, k, g => by
    unfold jd_lp
    split
    · exact Or.inr (Or.inl rfl)
    · split
      · exact Or.inr (Or.inr rfl)
      · exact jd_code N n d _ _
theorem rc_verdict (r : Nat) (R : rf_R) (M n t : Nat) (P : rf_Pre R M 0) (hn : n < 4) (ht : t ≤ 20) (et : R.1 0 (434 + 61 * n) = nI t) (ok : jd_ok (R.1 0) M n t) : ∃ R2, rf_C 181 r [.ref r, .int (nI n)] R (some (.int (jd_at (R.1 0) n t).1)) R2 ∧ rf_kV R R2 ∧ rf_tells R2 (vd_t (R.1 0) M n t) := by
  obtain ⟨Rj, cj, kj, wj, gj⟩ := rc_judges r R M n t P hn ht ok
  have cm := rc_meetings r R n hn
  rw [et] at cm
  have Pj := kj.J.pre P
  have ej : Rj.1 0 = R.1 0 := by rw [kj.1]
  have code := jd_code (R.1 0) n t 0 (fun _ => 0)
  change (jd_at (R.1 0) n t).1 = 0 ∨ (jd_at (R.1 0) n t).1 = 1 ∨ (jd_at (R.1 0) n t).1 = 2 at code
  -- what is told first
  have mid : ∀ told, told = (if 0 < (jd_at (R.1 0) n t).1 then (jd_at (R.1 0) n t).2.1 else -1) → ∀ v R2, (∀ h, rf_At r (rf_sL (rf_sL (rf_sL (rf_sI Rj 24 told) 23 (nI t).toInt64) 21 (-1)) 22 (-1)) h → rf_G r 181 61 [.ref r, .int (nI n), .int (jd_at (R.1 0) n t).1, .retAddr 0] [] h v R2) → rf_C 181 r [.ref r, .int (nI n)] R v R2 := by
    intro told ht v R2 g h H
    show rf_G r 181 0 [.ref r, .int (nI n), .retAddr 0, .retAddr 0] [] h _ _
    have cm2 := rc_meetings r (rf_sI Rj 24 told) n hn
    rw [show (rf_sI Rj 24 told).1 0 = R.1 0 from ej, et] at cm2
    refine rf_G.step (pc' := 1) (st' := [_]) rfl rfl ?_
    refine rf_G.step (pc' := 2) (st' := [_, _]) rfl rfl ?_
    refine rf_G.v1I H rfl (by decide) rfl ⟨Nat.le_of_ble_eq_true rfl, rfl⟩ (Nat.le_of_ble_eq_true rfl) (rc_isNet r R (nI n)) (fun h H => ?_)
    refine rf_G.brn rfl (fun _ => ?_) (fun zq => absurd zq (fun q => (rf_o_0 _).mp q (rf_k4 hn)))
    refine rf_G.step (pc' := 11) (st' := [_]) rfl rfl ?_
    refine rf_G.step (pc' := 12) (st' := [_, _]) rfl rfl ?_
    refine rf_G.step (pc' := 13) (st' := [_, _, _]) rfl rfl ?_
    refine rf_G.step (pc' := 14) (st' := [_, _, _, _]) rfl rfl ?_
    refine rf_G.v1I H rfl (by decide) rfl ⟨Nat.le_of_ble_eq_true rfl, rfl⟩ (Nat.le_of_ble_eq_true rfl) (cm) (fun h H => ?_)
    refine rf_G.v2I H rfl (by decide) rfl ⟨Nat.le_of_ble_eq_true rfl, rfl⟩ (Nat.le_of_ble_eq_true rfl) (cj) (fun h H => ?_)
    refine rf_G.step (pc' := 21) (ls' := [_, _, _, _]) (st' := []) rfl rfl ?_
    refine rf_G.step (pc' := 22) (st' := [_]) rfl rfl ?_
    refine rf_G.step (pc' := 23) (st' := [_, _]) rfl rfl ?_
    by_cases z : 0 < (jd_at (R.1 0) n t).1
    · rw [if_pos z] at ht
      refine rf_G.br rfl (jx_br_le _ _) (fun zq => absurd zq (Int32.not_le.mpr z)) (fun _ => ?_)
      refine rf_G.step (pc' := 27) (st' := [_, _]) rfl rfl ?_
      refine rf_G.get H rfl rfl ?_
      rw [wj, ← ht]
      refine rf_G.step (pc' := 34) (st' := [_, _]) rfl rfl ?_
      refine rf_G.putI H rfl rfl (by decide) rfl (fun h H => ?_)
      refine rf_G.step (pc' := 38) (st' := [_]) rfl rfl ?_
      refine rf_G.step (pc' := 39) (st' := [_, _]) rfl rfl ?_
      refine rf_G.step (pc' := 40) (st' := [_, _, _]) rfl rfl ?_
      refine rf_G.v1I H rfl (by decide) rfl ⟨Nat.le_of_ble_eq_true rfl, rfl⟩ (Nat.le_of_ble_eq_true rfl) (cm2) (fun h H => ?_)
      refine rf_G.step (pc' := 44) (st' := [_, _]) rfl rfl ?_
      refine rf_G.putL H rfl rfl (by decide) rfl (fun h H => ?_)
      refine rf_G.step (pc' := 48) (st' := [_]) rfl rfl ?_
      refine rf_G.step (pc' := 51) (st' := [_, _]) rfl rfl ?_
      refine rf_G.putL H rfl rfl (by decide) rfl (fun h H => ?_)
      refine rf_G.step (pc' := 55) (st' := [_]) rfl rfl ?_
      refine rf_G.step (pc' := 58) (st' := [_, _]) rfl rfl ?_
      refine rf_G.putL H rfl rfl (by decide) rfl (fun h H => ?_)
      exact g h H
    · rw [if_neg z] at ht
      refine rf_G.br rfl (jx_br_le _ _) (fun _ => ?_) (fun zq => absurd (Int32.not_lt.mp z) zq)
      rw [ht] at g cm2
      refine rf_G.step (pc' := 34) (st' := [_, _]) rfl rfl ?_
      refine rf_G.putI H rfl rfl (by decide) rfl (fun h H => ?_)
      refine rf_G.step (pc' := 38) (st' := [_]) rfl rfl ?_
      refine rf_G.step (pc' := 39) (st' := [_, _]) rfl rfl ?_
      refine rf_G.step (pc' := 40) (st' := [_, _, _]) rfl rfl ?_
      refine rf_G.v1I H rfl (by decide) rfl ⟨Nat.le_of_ble_eq_true rfl, rfl⟩ (Nat.le_of_ble_eq_true rfl) (cm2) (fun h H => ?_)
      refine rf_G.step (pc' := 44) (st' := [_, _]) rfl rfl ?_
      refine rf_G.putL H rfl rfl (by decide) rfl (fun h H => ?_)
      refine rf_G.step (pc' := 48) (st' := [_]) rfl rfl ?_
      refine rf_G.step (pc' := 51) (st' := [_, _]) rfl rfl ?_
      refine rf_G.putL H rfl rfl (by decide) rfl (fun h H => ?_)
      refine rf_G.step (pc' := 55) (st' := [_]) rfl rfl ?_
      refine rf_G.step (pc' := 58) (st' := [_, _]) rfl rfl ?_
      refine rf_G.putL H rfl rfl (by decide) rfl (fun h H => ?_)
      exact g h H
  have kv : ∀ told, rf_kV R (rf_sL (rf_sL (rf_sL (rf_sI Rj 24 told) 23 (nI t).toInt64) 21 (-1)) 22 (-1)) := fun told => (((kj.J.V.tr rf_kV.I).tr rf_kV.L).tr rf_kV.L).tr rf_kV.L
  unfold vd_t
  by_cases z : 0 < (jd_at (R.1 0) n t).1
  · refine ⟨rf_sL (rf_sL (rf_sL (rf_sI Rj 24 (jd_at (R.1 0) n t).2.1) 23 (nI t).toInt64) 21 (-1)) 22 (-1), ?_, kv _, ?_⟩
    · refine mid _ (if_pos z).symm _ _ (fun h H => ?_)
      refine rf_G.step (pc' := 62) (st' := [_]) rfl rfl ?_
      refine rf_G.br rfl (jx_br_le _ _) (fun zq => absurd zq (Int32.not_le.mpr z)) (fun _ => ?_)
      refine rf_G.step (pc' := 66) (st' := [_]) rfl rfl ?_
      exact rf_G.ret H rfl rfl
    · rw [if_pos z, if_pos z, if_pos z]
      exact ⟨rfl, rfl, rfl, rfl⟩
  · have z0 : (jd_at (R.1 0) n t).1 = 0 := by
      rcases code with q | q | q
      · exact q
      · rw [q] at z
        exact absurd (by decide) z
      · rw [q] at z
        exact absurd (by decide) z
    have kw : rf_kV R (rf_sL (rf_sL (rf_sL (rf_sL (rf_sL (rf_sI Rj 24 (-1)) 23 (nI t).toInt64) 21 (-1)) 22 (-1)) 21 0) 22 0) := ((kv _).tr rf_kV.L).tr rf_kV.L
    obtain ⟨R2, ⟨f1, f2⟩, g⟩ := rc_vd_loop r (rf_sL (rf_sL (rf_sL (rf_sL (rf_sL (rf_sI Rj 24 (-1)) 23 (nI t).toInt64) 21 (-1)) 22 (-1)) 21 0) 22 0) M (kw.pre P) (nI n) 0 (jd_at (R.1 0) n t).2.2 gj M 0 _ (by omega) (rf_J.rf).V rfl rfl rfl rfl rfl
    rw [show (rf_sL (rf_sL (rf_sL (rf_sL (rf_sL (rf_sI Rj 24 (-1)) 23 (nI t).toInt64) 21 (-1)) 22 (-1)) 21 0) 22 0).1 0 = R.1 0 from ej] at f2
    refine ⟨R2, ?_, kw.tr f1, ?_⟩
    · refine mid (-1) (if_neg z).symm _ _ (fun h H => ?_)
      rw [z0]
      refine rf_G.step (pc' := 62) (st' := [_]) rfl rfl ?_
      refine rf_G.br rfl (jx_br_le _ _) (fun _ => ?_) (fun zq => absurd (by decide) zq)
      refine rf_G.step (pc' := 68) (st' := [_]) rfl rfl ?_
      refine rf_G.step (pc' := 69) (st' := [_, _]) rfl rfl ?_
      refine rf_G.putL H rfl rfl (by decide) rfl (fun h H => ?_)
      refine rf_G.step (pc' := 73) (st' := [_]) rfl rfl ?_
      refine rf_G.step (pc' := 74) (st' := [_, _]) rfl rfl ?_
      refine rf_G.putL H rfl rfl (by decide) rfl (fun h H => ?_)
      refine rf_G.step (pc' := 78) (st' := [_]) rfl rfl ?_
      refine rf_G.step (pc' := 79) (ls' := [_, _, _, _]) (st' := []) rfl rfl ?_
      exact g h H
    · rw [if_neg z, if_neg z, if_neg z]
      exact f2
/-- thousandths, downwards -/
def cl_q (a b : Int64) : Int32 := (if 1000 * a < 0 ∧ ¬ 1000 * a / b * b = 1000 * a then 1000 * a / b - 1 else 1000 * a / b).toInt32
def cl_at (N : Nat → Int32) (n t k : Nat) : Int32 := if (jd_at N n t).1 = 0 then cl_q (jd_ms N n k (jd_at N n k).2.2).1 (jd_ms N n k (jd_at N n k).2.2).2 else -1
theorem rc_closest_no (r : Nat) (R : rf_R) (n k : Int32) (hn : ¬ (0 ≤ n.toInt ∧ n.toInt ≤ 3)) : rf_C 187 r [.ref r, .int n, .int k] R (some (.int (-1))) R := by
  intro h H
  show rf_G r 187 0 [.ref r, .int n, .int k, .retAddr 0, .retAddr 0, .retAddr 0, .retAddr 0, .retAddr 0] [] h _ _
  refine rf_G.step (pc' := 1) (st' := [_]) rfl rfl ?_
  refine rf_G.step (pc' := 2) (st' := [_, _]) rfl rfl ?_
  refine rf_G.v1I H rfl (by decide) rfl ⟨Nat.le_of_ble_eq_true rfl, rfl⟩ (Nat.le_of_ble_eq_true rfl) (rc_isNet r R n) (fun h H => ?_)
  refine rf_G.br rfl (jx_br_eq _ _) (fun _ => ?_) (fun zq => absurd ((rf_o_0 _).mpr hn) zq)
  refine rf_G.step (pc' := 26) (st' := [_]) rfl rfl ?_
  exact rf_G.ret H rfl rfl
theorem rc_closest_k (r : Nat) (R : rf_R) (n t : Nat) (hn : n < 4) (ht : t ≤ 20) (et : R.1 0 (434 + 61 * n) = nI t) (k : Int32) (hk : ¬ (0 ≤ k.toInt ∧ k.toInt < t)) : rf_C 187 r [.ref r, .int (nI n), .int k] R (some (.int (-1))) R := by
  have cm := rc_meetings r R n hn
  rw [et] at cm
  intro h H
  show rf_G r 187 0 [.ref r, .int (nI n), .int k, .retAddr 0, .retAddr 0, .retAddr 0, .retAddr 0, .retAddr 0] [] h _ _
  refine rf_G.step (pc' := 1) (st' := [_]) rfl rfl ?_
  refine rf_G.step (pc' := 2) (st' := [_, _]) rfl rfl ?_
  refine rf_G.v1I H rfl (by decide) rfl ⟨Nat.le_of_ble_eq_true rfl, rfl⟩ (Nat.le_of_ble_eq_true rfl) (rc_isNet r R (nI n)) (fun h H => ?_)
  refine rf_G.br rfl (jx_br_eq _ _) (fun zq => absurd zq (fun q => (rf_o_0 _).mp q (rf_k4 hn))) (fun _ => ?_)
  refine rf_G.step (pc' := 9) (st' := [_]) rfl rfl ?_
  refine rf_G.step (pc' := 10) (st' := [_]) rfl rfl ?_
  refine rf_G.step (pc' := 11) (st' := [_, _]) rfl rfl ?_
  refine rf_G.step (pc' := 12) (st' := [_, _, _]) rfl rfl ?_
  refine rf_G.step (pc' := 13) (st' := [_, _, _, _]) rfl rfl ?_
  refine rf_G.v1I H rfl (by decide) rfl ⟨Nat.le_of_ble_eq_true rfl, rfl⟩ (Nat.le_of_ble_eq_true rfl) (cm) (fun h H => ?_)
  refine rf_G.step (pc' := 17) (st' := [_, _, _, _]) rfl rfl ?_
  refine rf_G.step (pc' := 18) (st' := [_, _, _]) rfl rfl ?_
  refine rf_G.step (pc' := 19) (st' := [_, _, _]) rfl rfl ?_
  refine rf_G.s3 rfl (by decide) rfl (Nat.le_of_ble_eq_true rfl) (Nat.le_of_ble_eq_true rfl) (fun h => rc_inI _ _ _ h) ?_
  rw [rf_w, nI_m1 (by omega)]
  refine rf_G.brn rfl (fun zq => absurd ((rf_o_0 _).mpr (fun q => hk ⟨q.1, by have := q.2; omega⟩)) zq) (fun _ => ?_)
  refine rf_G.step (pc' := 26) (st' := [_]) rfl rfl ?_
  exact rf_G.ret H rfl rfl
theorem rc_closest (r : Nat) (R : rf_R) (M n t k : Nat) (P : rf_Pre R M 0) (hn : n < 4) (ht : t ≤ 20) (et : R.1 0 (434 + 61 * n) = nI t) (ok : jd_ok (R.1 0) M n t) (hk : k < t) (hb : ¬ (jd_ms (R.1 0) n k (jd_at (R.1 0) n k).2.2).2 = 0) : ∃ R2, rf_C 187 r [.ref r, .int (nI n), .int (nI k)] R (some (.int (cl_at (R.1 0) n t k))) R2 ∧ rf_J R R2 := by
  have hM := P.hM
  obtain ⟨Rj, cj, kj, -, -⟩ := rc_judges r R M n t P hn ht ok
  have cm := rc_meetings r R n hn
  rw [et] at cm
  have ej : Rj.1 0 = R.1 0 := by rw [kj.1]
  have head : ∀ v R2, (∀ h, rf_At r Rj h → rf_G r 187 37 [.ref r, .int (nI n), .int (nI k), .retAddr 0, .retAddr 0, .retAddr 0, .retAddr 0, .retAddr 0] [.int (jd_at (R.1 0) n t).1] h v R2) → rf_C 187 r [.ref r, .int (nI n), .int (nI k)] R v R2 := by
    intro v R2 g h H
    show rf_G r 187 0 [.ref r, .int (nI n), .int (nI k), .retAddr 0, .retAddr 0, .retAddr 0, .retAddr 0, .retAddr 0] [] h _ _
    refine rf_G.step (pc' := 1) (st' := [_]) rfl rfl ?_
    refine rf_G.step (pc' := 2) (st' := [_, _]) rfl rfl ?_
    refine rf_G.v1I H rfl (by decide) rfl ⟨Nat.le_of_ble_eq_true rfl, rfl⟩ (Nat.le_of_ble_eq_true rfl) (rc_isNet r R (nI n)) (fun h H => ?_)
    refine rf_G.br rfl (jx_br_eq _ _) (fun zq => absurd zq (fun q => (rf_o_0 _).mp q (rf_k4 hn))) (fun _ => ?_)
    refine rf_G.step (pc' := 9) (st' := [_]) rfl rfl ?_
    refine rf_G.step (pc' := 10) (st' := [_]) rfl rfl ?_
    refine rf_G.step (pc' := 11) (st' := [_, _]) rfl rfl ?_
    refine rf_G.step (pc' := 12) (st' := [_, _, _]) rfl rfl ?_
    refine rf_G.step (pc' := 13) (st' := [_, _, _, _]) rfl rfl ?_
    refine rf_G.v1I H rfl (by decide) rfl ⟨Nat.le_of_ble_eq_true rfl, rfl⟩ (Nat.le_of_ble_eq_true rfl) (cm) (fun h H => ?_)
    refine rf_G.step (pc' := 17) (st' := [_, _, _, _]) rfl rfl ?_
    refine rf_G.step (pc' := 18) (st' := [_, _, _]) rfl rfl ?_
    refine rf_G.step (pc' := 19) (st' := [_, _, _]) rfl rfl ?_
    refine rf_G.s3 rfl (by decide) rfl (Nat.le_of_ble_eq_true rfl) (Nat.le_of_ble_eq_true rfl) (fun h => rc_inI _ _ _ h) ?_
    rw [rf_w, nI_m1 (by omega), nI_toInt (by omega)]
    refine rf_G.brn rfl (fun _ => ?_) (fun zq => absurd zq (fun q => (rf_o_0 _).mp q (show (0 : Int) ≤ (k : Int) ∧ (k : Int) ≤ (t : Int) - 1 by omega)))
    refine rf_G.step (pc' := 28) (st' := [_]) rfl rfl ?_
    refine rf_G.step (pc' := 29) (st' := [_, _]) rfl rfl ?_
    refine rf_G.step (pc' := 30) (st' := [_, _, _]) rfl rfl ?_
    refine rf_G.step (pc' := 31) (st' := [_, _, _, _]) rfl rfl ?_
    refine rf_G.v1I H rfl (by decide) rfl ⟨Nat.le_of_ble_eq_true rfl, rfl⟩ (Nat.le_of_ble_eq_true rfl) (cm) (fun h H => ?_)
    refine rf_G.v2I H rfl (by decide) rfl ⟨Nat.le_of_ble_eq_true rfl, rfl⟩ (Nat.le_of_ble_eq_true rfl) (cj) (fun h H => ?_)
    exact g h H
  unfold cl_at
  by_cases z : (jd_at (R.1 0) n t).1 = 0
  · rw [if_pos z]
    obtain ⟨Rk, ck, kk, -, gk⟩ := rc_judges r Rj M n k (kj.J.pre P) hn (by omega) (by rw [ej]; exact fun i hi => ok i (by omega))
    rw [ej] at ck gk
    have ek : Rk.1 0 = R.1 0 := by rw [kk.1, ej]
    have Pk := (kj.J.tr kk.J).pre P
    obtain ⟨⟨a1, a2⟩, ⟨c1, c2⟩, q1, q2⟩ := ok k hk
    have cm0 := rc_meeting r Rk n k 0 hn (by omega) (by decide)
    have cm1 := rc_meeting r Rk n k 1 hn (by omega) (by decide)
    have cm2 := rc_meeting r Rk n k 2 hn (by omega) (by decide)
    rw [ek] at cm0 cm1 cm2
    rw [Nat.add_zero, a2] at cm0
    rw [c2] at cm1
    have pa := Pk.ok (jd_a (R.1 0) n k) a1
    have pc := Pk.ok (jd_c (R.1 0) n k) c1
    have hh : (jd_h (R.1 0) n k).toInt = (R.1 0 (434 + 61 * n + 1 + 3 * k + 2)).toInt := rf_w _
    obtain ⟨R3, c3, k3, e17, e18⟩ := rc_meets r Rk (jd_a (R.1 0) n k) (jd_c (R.1 0) n k) (by omega) (by omega) pa.1 pc.1 pa.2 pc.2 ((jd_at (R.1 0) n k).2.2 (jd_a (R.1 0) n k)) ((jd_at (R.1 0) n k).2.2 (jd_c (R.1 0) n k)) (jd_h (R.1 0) n k) (by omega) (by omega)
    rw [ek] at e17 e18
    have e17 : R3.2.2.2 17 = (jd_ms (R.1 0) n k (jd_at (R.1 0) n k).2.2).1 := e17
    have e18 : R3.2.2.2 18 = (jd_ms (R.1 0) n k (jd_at (R.1 0) n k).2.2).2 := e18
    generalize (jd_ms (R.1 0) n k (jd_at (R.1 0) n k).2.2).1 = x at *
    generalize (jd_ms (R.1 0) n k (jd_at (R.1 0) n k).2.2).2 = y at *
    refine ⟨R3, head _ _ (fun h H => ?_), (kj.J.tr kk.J).tr k3.J⟩
    refine rf_G.br rfl (jx_br_eq _ _) (fun _ => ?_) (fun zq => absurd (z) zq)
    refine rf_G.step (pc' := 43) (st' := [_]) rfl rfl ?_
    refine rf_G.step (pc' := 44) (st' := [_, _]) rfl rfl ?_
    refine rf_G.step (pc' := 45) (st' := [_, _, _]) rfl rfl ?_
    refine rf_G.v2I H rfl (by decide) rfl ⟨Nat.le_of_ble_eq_true rfl, rfl⟩ (Nat.le_of_ble_eq_true rfl) (ck) (fun h H => ?_)
    refine rf_G.step (pc' := 49) (ls' := [_, _, _, _, _, _, _, _]) (st' := []) rfl rfl ?_
    refine rf_G.step (pc' := 50) (st' := [_]) rfl rfl ?_
    refine rf_G.step (pc' := 51) (st' := [_, _]) rfl rfl ?_
    refine rf_G.step (pc' := 52) (st' := [_, _, _]) rfl rfl ?_
    refine rf_G.step (pc' := 53) (st' := [_, _, _, _]) rfl rfl ?_
    refine rf_G.v3I H rfl (by decide) rfl ⟨Nat.le_of_ble_eq_true rfl, rfl⟩ (Nat.le_of_ble_eq_true rfl) (cm0) (fun h H => ?_)
    refine rf_G.step (pc' := 58) (ls' := [_, _, _, _, _, _, _, _]) (st' := []) rfl rfl ?_
    refine rf_G.step (pc' := 59) (st' := [_]) rfl rfl ?_
    refine rf_G.step (pc' := 60) (st' := [_, _]) rfl rfl ?_
    refine rf_G.step (pc' := 61) (st' := [_, _, _]) rfl rfl ?_
    refine rf_G.step (pc' := 62) (st' := [_, _, _, _]) rfl rfl ?_
    refine rf_G.v3I H rfl (by decide) rfl ⟨Nat.le_of_ble_eq_true rfl, rfl⟩ (Nat.le_of_ble_eq_true rfl) (cm1) (fun h H => ?_)
    refine rf_G.step (pc' := 67) (ls' := [_, _, _, _, _, _, _, _]) (st' := []) rfl rfl ?_
    refine rf_G.step (pc' := 68) (st' := [_]) rfl rfl ?_
    refine rf_G.step (pc' := 70) (st' := [_, _]) rfl rfl ?_
    refine rf_G.step (pc' := 71) (st' := [_, _, _]) rfl rfl ?_
    refine rf_G.get H rfl rfl ?_
    refine rf_G.step (pc' := 76) (st' := [_, _, _, _]) rfl rfl ?_
    refine rf_G.lald H 19 9 12 (by decide) rfl (rf_ix (by omega) (by decide)) ?_
    rw [nI_clamp (by omega), gk _ (by omega)]
    refine rf_G.step (pc' := 79) (st' := [_, _, _, _]) rfl rfl ?_
    refine rf_G.step (pc' := 80) (st' := [_, _, _, _, _]) rfl rfl ?_
    refine rf_G.get H rfl rfl ?_
    refine rf_G.step (pc' := 85) (st' := [_, _, _, _, _, _]) rfl rfl ?_
    refine rf_G.lald H 19 9 12 (by decide) rfl (rf_ix (by omega) (by decide)) ?_
    rw [nI_clamp (by omega), gk _ (by omega)]
    refine rf_G.step (pc' := 87) (st' := [_, _, _, _, _, _]) rfl rfl ?_
    refine rf_G.step (pc' := 88) (st' := [_, _, _, _, _, _, _]) rfl rfl ?_
    refine rf_G.step (pc' := 89) (st' := [_, _, _, _, _, _, _, _]) rfl rfl ?_
    refine rf_G.step (pc' := 90) (st' := [_, _, _, _, _, _, _, _, _]) rfl rfl ?_
    refine rf_G.v3I H rfl (by decide) rfl ⟨Nat.le_of_ble_eq_true rfl, rfl⟩ (Nat.le_of_ble_eq_true rfl) (cm2) (fun h H => ?_)
    refine rf_G.step (pc' := 94) (st' := [_, _, _, _, _, _]) rfl rfl ?_
    refine rf_G.v5V H rfl (by decide) rfl ⟨Nat.le_of_ble_eq_true rfl, rfl⟩ (Nat.le_of_ble_eq_true rfl) (c3) (fun h H => ?_)
    refine rf_G.step (pc' := 100) (st' := [_]) rfl rfl ?_
    refine rf_G.step (pc' := 101) (st' := [_, _]) rfl rfl ?_
    refine rf_G.get H rfl rfl ?_
    rw [e17]
    refine rf_G.step (pc' := 105) (st' := [_]) rfl rfl ?_
    refine rf_G.step (pc' := 106) (st' := [_, _]) rfl rfl ?_
    refine rf_G.get H rfl rfl ?_
    rw [e18]
    refine rf_G.ldiv rfl hb ?_
    refine rf_G.step (pc' := 112) (ls' := [_, _, _, _, _, _, _, _]) (st' := []) rfl rfl ?_
    refine rf_G.step (pc' := 115) (st' := [_]) rfl rfl ?_
    refine rf_G.step (pc' := 116) (st' := [_, _]) rfl rfl ?_
    refine rf_G.get H rfl rfl ?_
    rw [e17]
    refine rf_G.step (pc' := 120) (st' := [_]) rfl rfl ?_
    refine rf_G.step (pc' := 121) (st' := [_, _]) rfl rfl ?_
    refine rf_G.step (pc' := 122) (st' := [_]) rfl rfl ?_
    unfold cl_q
    have tf : rf_G r 187 151 [.ref r, .int (nI n), .int (nI k), .int (jd_at (R.1 0) n k).1, .int (nI (jd_a (R.1 0) n k)), .int (nI (jd_c (R.1 0) n k)), .long (1000 * x / y), .retAddr 0] [] h (some (.int (1000 * x / y).toInt32)) R3 := by
      refine rf_G.step (pc' := 153) (st' := [_]) rfl rfl ?_
      refine rf_G.step (pc' := 154) (st' := [_]) rfl rfl ?_
      exact rf_G.ret H rfl rfl
    by_cases y1 : 1000 * x < 0
    · refine rf_G.br rfl (jx_br_ge _ _) (fun zq => absurd zq (Int32.not_le.mpr ((lg_cmp_lt0 _ _).mpr y1))) (fun _ => ?_)
      refine rf_G.step (pc' := 127) (st' := [_]) rfl rfl ?_
      refine rf_G.step (pc' := 128) (st' := [_, _]) rfl rfl ?_
      refine rf_G.get H rfl rfl ?_
      rw [e18]
      refine rf_G.step (pc' := 132) (st' := [_]) rfl rfl ?_
      refine rf_G.step (pc' := 135) (st' := [_, _]) rfl rfl ?_
      refine rf_G.step (pc' := 136) (st' := [_, _, _]) rfl rfl ?_
      refine rf_G.get H rfl rfl ?_
      rw [e17]
      refine rf_G.step (pc' := 140) (st' := [_, _]) rfl rfl ?_
      refine rf_G.step (pc' := 141) (st' := [_]) rfl rfl ?_
      by_cases y2 : 1000 * x / y * y = 1000 * x
      · rw [if_neg (fun q => q.2 y2)]
        refine rf_G.br rfl (jx_br_eq _ _) (fun _ => ?_) (fun zq => absurd ((lg_cmp_eq0 _ _).mpr y2) zq)
        exact tf
      · rw [if_pos ⟨y1, y2⟩]
        refine rf_G.br rfl (jx_br_eq _ _) (fun zq => absurd zq (fun q => y2 ((lg_cmp_eq0 _ _).mp q))) (fun _ => ?_)
        refine rf_G.step (pc' := 146) (st' := [_]) rfl rfl ?_
        refine rf_G.step (pc' := 147) (st' := [_, _]) rfl rfl ?_
        refine rf_G.step (pc' := 148) (st' := [_]) rfl rfl ?_
        refine rf_G.step (pc' := 153) (st' := [_]) rfl rfl ?_
        refine rf_G.step (pc' := 154) (st' := [_]) rfl rfl ?_
        exact rf_G.ret H rfl rfl
    · rw [if_neg (fun q => y1 q.1)]
      refine rf_G.br rfl (jx_br_ge _ _) (fun _ => ?_) (fun zq => absurd (Int32.not_lt.mp (fun q => y1 ((lg_cmp_lt0 _ _).mp q))) zq)
      exact tf
  · rw [if_neg z]
    refine ⟨Rj, head _ _ (fun h H => ?_), kj.J⟩
    refine rf_G.br rfl (jx_br_eq _ _) (fun zq => absurd zq (z)) (fun _ => ?_)
    refine rf_G.step (pc' := 41) (st' := [_]) rfl rfl ?_
    exact rf_G.ret H rfl rfl
