/-! the reference: engine, carrier -/
def hz_L (N : Nat → Int32) (w : Int32) (M : Nat) : List Int32 := lv_L N (fun _ => 0) w M 0
def hz_n (N : Nat → Int32) (w : Int32) (M : Nat) : Nat := hp_n N (fun _ => 0) w M 0
def hz_v (N : Nat → Int32) (w : Int32) (M : Nat) : Int64 := hp_v N (fun _ => 0) (fun _ => 0) w M 0
def hz_ah (N : Nat → Int32) (w : Int32) (M : Nat) : Nat → Int64 := hp_ah N (fun _ => 0) (fun _ => 0) w M 0
def hz_be (N : Nat → Int32) (w : Int32) (M : Nat) : Nat → Int64 := hp_be N (fun _ => 0) (fun _ => 0) w M 0
def hz_cd (N : Nat → Int32) (w : Int32) (M : Nat) : Int64 := if hz_n N w M = 0 then 0 else hz_be N w M (hz_n N w M - 1) + hz_v N w M
def hz_pa (N : Nat → Int32) (w : Int32) (M : Nat) (k : Int32) : Int32 := rf_pn (hz_ah N w M) (hz_be N w M) (hz_n N w M) (hz_v N w M) k (hz_n N w M) 0 0
theorem rf_pn_congr {ah be ah2 be2 : Nat → Int64} {n : Nat} {heat : Int64} {k : Int32} : ∀ d i s, (∀ j, i ≤ j → j < i + d → ah j = ah2 j ∧ be j = be2 j) → rf_pn ah be n heat k d i s = rf_pn ah2 be2 n heat k d i s
  | 0, _, _, _ => rfl
  | d + 1, i, s, h => by
    unfold rf_pn
    rw [(h i (by omega) (by omega)).1, (h i (by omega) (by omega)).2, rf_pn_congr d (i + 1) (s + 1) (fun j h1 h2 => h j (by omega) (by omega)), rf_pn_congr d (i + 1) s (fun j h1 h2 => h j (by omega) (by omega))]
theorem hz_heat {R : rf_R} {M : Nat} (P : rf_Pre R M 0) (w : Int32) : rf_hn R w M 0 = hz_n (R.1 0) w M ∧ rf_hv R w M 0 = hz_v (R.1 0) w M ∧ (∀ j, j < rf_hn R w M 0 → (rf_hq R w M 0).2.2.1 j = hz_ah (R.1 0) w M j ∧ (rf_hq R w M 0).2.2.2 j = hz_be (R.1 0) w M j) := by
  obtain ⟨h1, h2, h3⟩ := hp_heat P w
  have c := hp_congr (N := R.1 0) (X := R.1 7) (X2 := fun _ => 0) (Y := R.2.1 8) (Y2 := fun _ => 0) (w := w) (M := M) (E := 0) (fun k hk => absurd hk (by omega)) (fun k hk => absurd hk (by omega))
  have c2 := hp_v_congr (N := R.1 0) (X := R.1 7) (X2 := fun _ => 0) (Y := R.2.1 8) (Y2 := fun _ => 0) (w := w) (M := M) (E := 0) (fun k hk => absurd hk (by omega)) (fun k hk => absurd hk (by omega))
  have ca : hp_a (R.1 0) (R.1 7) w M 0 = hp_a (R.1 0) (fun _ => 0) w M 0 := by
    unfold hp_a
    rw [c.1]
  refine ⟨h1.trans (congrArg List.length c.1), h2.trans c2, fun j hj => ?_⟩
  rw [(h3 j hj).1, (h3 j hj).2]
  unfold hz_ah hz_be hp_ah hp_be
  rw [ca, c.2]
  exact ⟨rfl, rfl⟩
theorem hz_cold {R : rf_R} {M : Nat} (P : rf_Pre R M 0) (w : Int32) : rf_cd R w M 0 = hz_cd (R.1 0) w M := by
  obtain ⟨h1, h2, h3⟩ := hz_heat P w
  unfold rf_cd hz_cd
  rw [← h1, ← h2]
  by_cases h : rf_hn R w M 0 = 0
  · rw [if_pos h, if_pos h]
  · rw [if_neg h, if_neg h, (h3 _ (by omega)).2]
theorem hz_pat {R : rf_R} {M : Nat} (P : rf_Pre R M 0) (w k : Int32) : rf_pa R w M 0 k = hz_pa (R.1 0) w M k := by
  obtain ⟨h1, h2, h3⟩ := hz_heat P w
  unfold rf_pa hz_pa
  rw [← h1, ← h2]
  exact rf_pn_congr _ _ _ (fun j _ hj => h3 j (by omega))
theorem hz_lev {R : rf_R} {M : Nat} (P : rf_Pre R M 0) (w : Int32) (k : Nat) (hk : k < rf_hn R w M 0) : (rf_las R w M 0).1.1 9 k = (hz_L (R.1 0) w M).getD k 0 := by
  rw [lv_get P w k hk]
  have c := hp_congr (N := R.1 0) (X := R.1 7) (X2 := fun _ => 0) (Y := R.2.1 8) (Y2 := fun _ => 0) (w := w) (M := M) (E := 0) (fun k hk => absurd hk (by omega)) (fun k hk => absurd hk (by omega))
  rw [c.1]
  rfl
abbrev rf_eok (heat level work lower : Int32) : Prop := (1 ≤ heat.toInt ∧ heat.toInt ≤ 1000000) ∧ (0 ≤ work.toInt ∧ work.toInt ≤ heat.toInt) ∧ ¬ level ≤ lower ∧ (-200 ≤ level.toInt ∧ level.toInt ≤ 2000) ∧ (-200 ≤ lower.toInt ∧ lower.toInt ≤ 2000)
def rf_eng (N : Nat → Int32) (M : Nat) (heat level work lower : Int32) : Int64 := if rf_eok heat level work lower then hz_v N 3 M + heat.toInt64 - rf_lw N 3 M level (-heat).toInt64 lower (heat - work).toInt64 else 0
theorem rc_engine (r : Nat) {R : rf_R} {M : Nat} (P : rf_Pre R M 0) (heat level work lower : Int32) : ∃ R2, rf_C 188 r [.ref r, .int heat, .int level, .int work, .int lower] R (some (.long (rf_eng (R.1 0) M heat level work lower))) R2 ∧ rf_J R R2 := by
  by_cases ok : rf_eok heat level work lower
  · have j1 := rf_hR_J P 3
    obtain ⟨R2, c, j⟩ := rc_leastWith r (rf_hR_pre P 3) 3 level (-heat).toInt64 lower (heat - work).toInt64
    refine ⟨R2, ?_, j1.tr j⟩
    unfold rf_eng
    rw [if_pos ok, ← (hz_heat P 3).2.1]
    rw [j1.1] at c
    obtain ⟨o1, o2, o3, o4, o5⟩ := ok
    intro h H
    show rf_G r 188 0 [.ref r, .int heat, .int level, .int work, .int lower] [] h _ _
    refine rf_G.step (pc' := 1) (st' := [_]) rfl rfl ?_
    refine rf_G.step (pc' := 2) (st' := [_]) rfl rfl ?_
    refine rf_G.step (pc' := 3) (st' := [_, _]) rfl rfl ?_
    refine rf_G.step (pc' := 6) (st' := [_, _, _]) rfl rfl ?_
    refine rf_G.s3 rfl (by decide) rfl (Nat.le_of_ble_eq_true rfl) (Nat.le_of_ble_eq_true rfl) (fun h => rc_inI _ _ _ h) ?_
    rw [rf_w, rf_ot (show (1 : Int64).toInt ≤ heat.toInt ∧ heat.toInt ≤ (1000000 : Int64).toInt from o1)]
    refine rf_G.br rfl (jx_br_eq _ _) (fun z => absurd z (by decide)) (fun _ => ?_)
    refine rf_G.step (pc' := 13) (st' := [_]) rfl rfl ?_
    refine rf_G.step (pc' := 14) (st' := [_]) rfl rfl ?_
    refine rf_G.step (pc' := 15) (st' := [_, _]) rfl rfl ?_
    refine rf_G.step (pc' := 16) (st' := [_, _, _]) rfl rfl ?_
    refine rf_G.step (pc' := 17) (st' := [_, _, _]) rfl rfl ?_
    refine rf_G.s3 rfl (by decide) rfl (Nat.le_of_ble_eq_true rfl) (Nat.le_of_ble_eq_true rfl) (fun h => rc_inI _ _ _ h) ?_
    rw [rf_w, rf_w, rf_ot (show (0 : Int64).toInt ≤ work.toInt ∧ work.toInt ≤ heat.toInt from o2)]
    refine rf_G.br rfl (jx_br_eq _ _) (fun z => absurd z (by decide)) (fun _ => ?_)
    refine rf_G.step (pc' := 25) (st' := [_]) rfl rfl ?_
    refine rf_G.step (pc' := 26) (st' := [_, _]) rfl rfl ?_
    refine rf_G.bc rfl (jx_br_ge _ _) (fun z => absurd z (o3)) (fun _ => ?_)
    refine rf_G.step (pc' := 30) (st' := [_]) rfl rfl ?_
    refine rf_G.step (pc' := 31) (st' := [_]) rfl rfl ?_
    refine rf_G.step (pc' := 34) (st' := [_, _]) rfl rfl ?_
    refine rf_G.step (pc' := 37) (st' := [_, _, _]) rfl rfl ?_
    refine rf_G.s3 rfl (by decide) rfl (Nat.le_of_ble_eq_true rfl) (Nat.le_of_ble_eq_true rfl) (fun h => rc_inI _ _ _ h) ?_
    rw [rf_w, rf_ot (show (-200 : Int64).toInt ≤ level.toInt ∧ level.toInt ≤ (2000 : Int64).toInt from o4)]
    refine rf_G.br rfl (jx_br_eq _ _) (fun z => absurd z (by decide)) (fun _ => ?_)
    refine rf_G.step (pc' := 45) (st' := [_]) rfl rfl ?_
    refine rf_G.step (pc' := 46) (st' := [_]) rfl rfl ?_
    refine rf_G.step (pc' := 49) (st' := [_, _]) rfl rfl ?_
    refine rf_G.step (pc' := 52) (st' := [_, _, _]) rfl rfl ?_
    refine rf_G.s3 rfl (by decide) rfl (Nat.le_of_ble_eq_true rfl) (Nat.le_of_ble_eq_true rfl) (fun h => rc_inI _ _ _ h) ?_
    rw [rf_w, rf_ot (show (-200 : Int64).toInt ≤ lower.toInt ∧ lower.toInt ≤ (2000 : Int64).toInt from o5)]
    refine rf_G.brn rfl (fun _ => ?_) (fun z => absurd z (by decide))
    refine rf_G.step (pc' := 61) (st' := [_]) rfl rfl ?_
    refine rf_G.step (pc' := 62) (st' := [_, _]) rfl rfl ?_
    refine rf_G.v1I H rfl (by decide) rfl ⟨Nat.le_of_ble_eq_true rfl, rfl⟩ (Nat.le_of_ble_eq_true rfl) (rc_leastHeat r P 3) (fun h H => ?_)
    refine rf_G.step (pc' := 66) (st' := [_, _]) rfl rfl ?_
    refine rf_G.step (pc' := 67) (st' := [_, _]) rfl rfl ?_
    refine rf_G.step (pc' := 68) (st' := [_]) rfl rfl ?_
    refine rf_G.step (pc' := 69) (st' := [_, _]) rfl rfl ?_
    refine rf_G.step (pc' := 70) (st' := [_, _, _]) rfl rfl ?_
    refine rf_G.step (pc' := 71) (st' := [_, _, _, _]) rfl rfl ?_
    refine rf_G.step (pc' := 72) (st' := [_, _, _, _, _]) rfl rfl ?_
    refine rf_G.step (pc' := 73) (st' := [_, _, _, _, _]) rfl rfl ?_
    refine rf_G.step (pc' := 74) (st' := [_, _, _, _, _]) rfl rfl ?_
    refine rf_G.step (pc' := 76) (st' := [_, _, _, _, _, _]) rfl rfl ?_
    refine rf_G.step (pc' := 77) (st' := [_, _, _, _, _, _, _]) rfl rfl ?_
    refine rf_G.step (pc' := 78) (st' := [_, _, _, _, _, _, _, _]) rfl rfl ?_
    refine rf_G.step (pc' := 79) (st' := [_, _, _, _, _, _, _]) rfl rfl ?_
    refine rf_G.step (pc' := 80) (st' := [_, _, _, _, _, _, _]) rfl rfl ?_
    refine rf_G.v5I H rfl (by decide) rfl ⟨Nat.le_of_ble_eq_true rfl, rfl⟩ (Nat.le_of_ble_eq_true rfl) (c) (fun h H => ?_)
    refine rf_G.step (pc' := 84) (st' := [_]) rfl rfl ?_
    exact rf_G.ret H rfl rfl
  · refine ⟨R, ?_, rf_J.rf⟩
    unfold rf_eng
    rw [if_neg ok]
    intro h H
    show rf_G r 188 0 [.ref r, .int heat, .int level, .int work, .int lower] [] h _ _
    have t58 : ∀ h, rf_At r R h → rf_G r 188 58 [.ref r, .int heat, .int level, .int work, .int lower] [] h (some (.long 0)) R := by
      intro h H
      refine rf_G.step (pc' := 59) (st' := [_]) rfl rfl ?_
      exact rf_G.ret H rfl rfl
    refine rf_G.step (pc' := 1) (st' := [_]) rfl rfl ?_
    refine rf_G.step (pc' := 2) (st' := [_]) rfl rfl ?_
    refine rf_G.step (pc' := 3) (st' := [_, _]) rfl rfl ?_
    refine rf_G.step (pc' := 6) (st' := [_, _, _]) rfl rfl ?_
    refine rf_G.s3 rfl (by decide) rfl (Nat.le_of_ble_eq_true rfl) (Nat.le_of_ble_eq_true rfl) (fun h => rc_inI _ _ _ h) ?_
    rw [rf_w]
    refine rf_G.br rfl (jx_br_eq _ _) (fun z1 => ?_) (fun z1 => ?_)
    · exact t58 h H
    have o1 := Decidable.not_not.mp (fun y => z1 ((rf_o_0 _).mpr y))
    refine rf_G.step (pc' := 13) (st' := [_]) rfl rfl ?_
    refine rf_G.step (pc' := 14) (st' := [_]) rfl rfl ?_
    refine rf_G.step (pc' := 15) (st' := [_, _]) rfl rfl ?_
    refine rf_G.step (pc' := 16) (st' := [_, _, _]) rfl rfl ?_
    refine rf_G.step (pc' := 17) (st' := [_, _, _]) rfl rfl ?_
    refine rf_G.s3 rfl (by decide) rfl (Nat.le_of_ble_eq_true rfl) (Nat.le_of_ble_eq_true rfl) (fun h => rc_inI _ _ _ h) ?_
    rw [rf_w, rf_w]
    refine rf_G.br rfl (jx_br_eq _ _) (fun z2 => ?_) (fun z2 => ?_)
    · exact t58 h H
    have o2 := Decidable.not_not.mp (fun y => z2 ((rf_o_0 _).mpr y))
    refine rf_G.step (pc' := 25) (st' := [_]) rfl rfl ?_
    refine rf_G.step (pc' := 26) (st' := [_, _]) rfl rfl ?_
    refine rf_G.bc rfl (jx_br_ge _ _) (fun o3 => ?_) (fun o3 => ?_)
    · exact t58 h H
    refine rf_G.step (pc' := 30) (st' := [_]) rfl rfl ?_
    refine rf_G.step (pc' := 31) (st' := [_]) rfl rfl ?_
    refine rf_G.step (pc' := 34) (st' := [_, _]) rfl rfl ?_
    refine rf_G.step (pc' := 37) (st' := [_, _, _]) rfl rfl ?_
    refine rf_G.s3 rfl (by decide) rfl (Nat.le_of_ble_eq_true rfl) (Nat.le_of_ble_eq_true rfl) (fun h => rc_inI _ _ _ h) ?_
    rw [rf_w]
    refine rf_G.br rfl (jx_br_eq _ _) (fun z4 => ?_) (fun z4 => ?_)
    · exact t58 h H
    have o4 := Decidable.not_not.mp (fun y => z4 ((rf_o_0 _).mpr y))
    refine rf_G.step (pc' := 45) (st' := [_]) rfl rfl ?_
    refine rf_G.step (pc' := 46) (st' := [_]) rfl rfl ?_
    refine rf_G.step (pc' := 49) (st' := [_, _]) rfl rfl ?_
    refine rf_G.step (pc' := 52) (st' := [_, _, _]) rfl rfl ?_
    refine rf_G.s3 rfl (by decide) rfl (Nat.le_of_ble_eq_true rfl) (Nat.le_of_ble_eq_true rfl) (fun h => rc_inI _ _ _ h) ?_
    rw [rf_w]
    refine rf_G.brn rfl (fun z5 => ?_) (fun z5 => ?_)
    · have o5 := Decidable.not_not.mp (fun y => z5 ((rf_o_0 _).mpr y))
      exact absurd ⟨o1, o2, o3, o4, o5⟩ ok
    · exact t58 h H
/-- the search by halves -/
def rf_bs (good : Int64 → Prop) [DecidablePred good] : Nat → Int64 → Int64 → Int64
  | 0, lo, _ => lo
  | d + 1, lo, hi => if hi ≤ lo then lo else if good ((lo + hi + 1) / 2) then rf_bs good d ((lo + hi + 1) / 2) hi else rf_bs good d lo ((lo + hi + 1) / 2 - 1)
abbrev rf_cg (N : Nat → Int32) (M : Nat) (a b level : Int32) (one two q : Int64) : Prop := rf_lw N a M level (-q) 0 0 = one ∧ rf_lw N b M level q 0 0 = two - q
abbrev rf_cok (a b level : Int32) : Prop := (0 ≤ a.toInt ∧ a.toInt ≤ 2) ∧ (0 ≤ b.toInt ∧ b.toInt ≤ 2) ∧ ¬ a = b ∧ (-200 ≤ level.toInt ∧ level.toInt ≤ 2000)
def rf_ca (N : Nat → Int32) (M : Nat) (a b level : Int32) : Int64 := if rf_cok a b level then rf_bs (rf_cg N M a b level (hz_v N a M) (hz_v N b M)) (hz_v N b M).toInt.toNat 0 (hz_v N b M) else -1
theorem rf_half {lo hi : Int64} (h0 : 0 ≤ lo.toInt) (h1 : lo.toInt < hi.toInt) (h2 : hi.toInt < 2 ^ 61) : ((lo + hi + 1) / 2).toInt = (lo.toInt + hi.toInt + 1) / 2 ∧ ((lo + hi + 1) / 2 - 1).toInt = (lo.toInt + hi.toInt + 1) / 2 - 1 := by
  have e1 : (lo + hi).toInt = lo.toInt + hi.toInt := by
    rw [Int64.toInt_add]
    exact Int.bmod_eq_of_le (by omega) (by omega)
  have e2 : (lo + hi + 1).toInt = lo.toInt + hi.toInt + 1 := by
    rw [Int64.toInt_add, e1]
    exact Int.bmod_eq_of_le (by simp; omega) (by simp; omega)
  have e3 : ((lo + hi + 1) / 2).toInt = (lo.toInt + hi.toInt + 1) / 2 := by
    rw [Int64.toInt_div, e2]
    have : (2 : Int64).toInt = 2 := by decide
    rw [this, Int.tdiv_eq_ediv_of_nonneg (by omega)]
    exact Int.bmod_eq_of_le (by omega) (by omega)
  refine ⟨e3, ?_⟩
  rw [Int64.toInt_sub, e3]
  have : (1 : Int64).toInt = 1 := by decide
  rw [this]
  exact Int.bmod_eq_of_le (by omega) (by omega)
theorem rc_carrier_loop (r : Nat) (R : rf_R) (M : Nat) (P : rf_Pre R M 0) (a b level : Int32) (one two : Int64) (ht : two.toInt < 2 ^ 61) : ∀ (d : Nat) (lo hi : Int64), 0 ≤ lo.toInt → hi.toInt ≤ two.toInt → hi.toInt ≤ lo.toInt + d → ∀ (u1 u2 u3 : Value) (R1 : rf_R), rf_J R R1 → ∃ R2, rf_J R R2 ∧ ∀ h, rf_At r R1 h → rf_G r 190 68 [.ref r, .int a, .int b, .int level, .long one, .retAddr 0, .long two, .retAddr 0, .long lo, .retAddr 0, .long hi, .retAddr 0, u1, u2, u3] [] h (some (.long (rf_bs (rf_cg (R.1 0) M a b level one two) d lo hi))) R2 := by
  intro d
  induction d with
  | zero =>
    intro lo hi h0 h1 h2 u1 u2 u3 R1 j
    refine ⟨R1, j, fun h H => ?_⟩
    refine rf_G.step (pc' := 70) (st' := [_]) rfl rfl ?_
    refine rf_G.step (pc' := 72) (st' := [_, _]) rfl rfl ?_
    refine rf_G.step (pc' := 73) (st' := [_]) rfl rfl ?_
    refine rf_G.br rfl (jx_br_ge _ _) (fun _ => ?_) (fun z => absurd (Int32.not_lt.mp (fun q => absurd (Int64.lt_iff_toInt_lt.mp ((lg_cmp_lt0 _ _).mp q)) (by omega))) z)
    refine rf_G.step (pc' := 155) (st' := [_]) rfl rfl ?_
    exact rf_G.ret H rfl rfl
  | succ d ih =>
    intro lo hi h0 h1 h2 u1 u2 u3 R1 j
    by_cases hl : hi ≤ lo
    · refine ⟨R1, j, fun h H => ?_⟩
      unfold rf_bs
      rw [if_pos hl]
      refine rf_G.step (pc' := 70) (st' := [_]) rfl rfl ?_
      refine rf_G.step (pc' := 72) (st' := [_, _]) rfl rfl ?_
      refine rf_G.step (pc' := 73) (st' := [_]) rfl rfl ?_
      refine rf_G.br rfl (jx_br_ge _ _) (fun _ => ?_) (fun z => absurd (Int32.not_lt.mp (fun q => absurd (Int64.lt_iff_toInt_lt.mp ((lg_cmp_lt0 _ _).mp q)) (by have := Int64.le_iff_toInt_le.mp hl; omega))) z)
      refine rf_G.step (pc' := 155) (st' := [_]) rfl rfl ?_
      exact rf_G.ret H rfl rfl
    · have hl2 : lo.toInt < hi.toInt := Int.not_le.mp (fun q => hl (Int64.le_iff_toInt_le.mpr q))
      obtain ⟨q1, q2⟩ := rf_half h0 hl2 (by omega)
      generalize hq : (lo + hi + 1) / 2 = q at q1 q2
      obtain ⟨R2, c2, j2⟩ := rc_leastWith r (j.pre P) a level (-q) 0 0
      rw [j.1] at c2
      obtain ⟨R3, c3, j3⟩ := rc_leastWith r ((j.tr j2).pre P) b level q 0 0
      rw [(j.tr j2).1] at c3
      have t68 : rf_bs (rf_cg (R.1 0) M a b level one two) (d + 1) lo hi = if rf_cg (R.1 0) M a b level one two q then rf_bs (rf_cg (R.1 0) M a b level one two) d q hi else rf_bs (rf_cg (R.1 0) M a b level one two) d lo (q - 1) := by
        rw [rf_bs, if_neg hl, hq]
      rw [t68]
      have bad : ∀ R1, rf_J R R1 → ¬ rf_cg (R.1 0) M a b level one two q → ∃ R2, rf_J R R2 ∧ ∀ h, rf_At r R1 h → rf_G r 190 129 [.ref r, .int a, .int b, .int level, .long one, .retAddr 0, .long two, .retAddr 0, .long lo, .retAddr 0, .long hi, .retAddr 0, .long q, .retAddr 0, u3] [] h (some (.long (if rf_cg (R.1 0) M a b level one two q then rf_bs (rf_cg (R.1 0) M a b level one two) d q hi else rf_bs (rf_cg (R.1 0) M a b level one two) d lo (q - 1)))) R2 := by
        intro R1 j1 nb
        obtain ⟨R4, j4, g⟩ := ih lo (q - 1) h0 (by omega) (by omega) (.long q) (.retAddr 0) (.int 0) R1 j1
        refine ⟨R4, j4, fun h H => ?_⟩
        rw [if_neg nb]
        refine rf_G.step (pc' := 130) (st' := [_]) rfl rfl ?_
        refine rf_G.step (pc' := 132) (ls' := [_, _, _, _, _, _, _, _, _, _, _, _, _, _, _]) (st' := []) rfl rfl ?_
        refine rf_G.step (pc' := 134) (st' := [_]) rfl rfl ?_
        refine rf_G.br rfl (jx_br_eq _ _) (fun _ => ?_) (fun z => absurd (rfl) z)
        refine rf_G.step (pc' := 146) (st' := [_]) rfl rfl ?_
        refine rf_G.step (pc' := 147) (st' := [_, _]) rfl rfl ?_
        refine rf_G.step (pc' := 148) (st' := [_]) rfl rfl ?_
        refine rf_G.step (pc' := 150) (ls' := [_, _, _, _, _, _, _, _, _, _, _, _, _, _, _]) (st' := []) rfl rfl ?_
        refine rf_G.step (pc' := 68) (st' := []) rfl rfl ?_
        exact g h H
      by_cases g1 : rf_lw (R.1 0) a M level (-q) 0 0 = one
      · by_cases g2 : rf_lw (R.1 0) b M level q 0 0 = two - q
        · obtain ⟨R4, j4, g⟩ := ih q hi (by omega) h1 (by omega) (.long q) (.retAddr 0) (.int 1) R3 ((j.tr j2).tr j3)
          refine ⟨R4, j4, fun h H => ?_⟩
          rw [if_pos ⟨g1, g2⟩]
          refine rf_G.step (pc' := 70) (st' := [_]) rfl rfl ?_
          refine rf_G.step (pc' := 72) (st' := [_, _]) rfl rfl ?_
          refine rf_G.step (pc' := 73) (st' := [_]) rfl rfl ?_
          refine rf_G.br rfl (jx_br_ge _ _) (fun z => absurd z (Int32.not_le.mpr ((lg_cmp_lt0 _ _).mpr (Int64.lt_iff_toInt_lt.mpr hl2)))) (fun _ => ?_)
          refine rf_G.step (pc' := 78) (st' := [_]) rfl rfl ?_
          refine rf_G.step (pc' := 80) (st' := [_, _]) rfl rfl ?_
          refine rf_G.step (pc' := 81) (st' := [_]) rfl rfl ?_
          refine rf_G.step (pc' := 82) (st' := [_, _]) rfl rfl ?_
          refine rf_G.step (pc' := 83) (st' := [_]) rfl rfl ?_
          refine rf_G.step (pc' := 86) (st' := [_, _]) rfl rfl ?_
          refine rf_G.ldiv rfl (by decide) ?_
          rw [hq]
          refine rf_G.step (pc' := 89) (ls' := [_, _, _, _, _, _, _, _, _, _, _, _, _, _, _]) (st' := []) rfl rfl ?_
          refine rf_G.step (pc' := 90) (st' := [_]) rfl rfl ?_
          refine rf_G.step (pc' := 91) (st' := [_, _]) rfl rfl ?_
          refine rf_G.step (pc' := 92) (st' := [_, _, _]) rfl rfl ?_
          refine rf_G.step (pc' := 94) (st' := [_, _, _, _]) rfl rfl ?_
          refine rf_G.step (pc' := 95) (st' := [_, _, _, _]) rfl rfl ?_
          refine rf_G.step (pc' := 96) (st' := [_, _, _, _, _]) rfl rfl ?_
          refine rf_G.step (pc' := 97) (st' := [_, _, _, _, _, _]) rfl rfl ?_
          refine rf_G.v5I H rfl (by decide) rfl ⟨Nat.le_of_ble_eq_true rfl, rfl⟩ (Nat.le_of_ble_eq_true rfl) (c2) (fun h H => ?_)
          refine rf_G.step (pc' := 102) (st' := [_, _]) rfl rfl ?_
          refine rf_G.step (pc' := 103) (st' := [_]) rfl rfl ?_
          refine rf_G.brn rfl (fun z => absurd ((lg_cmp_eq0 _ _).mpr g1) z) (fun _ => ?_)
          refine rf_G.step (pc' := 107) (st' := [_]) rfl rfl ?_
          refine rf_G.step (pc' := 108) (st' := [_, _]) rfl rfl ?_
          refine rf_G.step (pc' := 109) (st' := [_, _, _]) rfl rfl ?_
          refine rf_G.step (pc' := 111) (st' := [_, _, _, _]) rfl rfl ?_
          refine rf_G.step (pc' := 112) (st' := [_, _, _, _, _]) rfl rfl ?_
          refine rf_G.step (pc' := 113) (st' := [_, _, _, _, _, _]) rfl rfl ?_
          refine rf_G.v5I H rfl (by decide) rfl ⟨Nat.le_of_ble_eq_true rfl, rfl⟩ (Nat.le_of_ble_eq_true rfl) (c3) (fun h H => ?_)
          refine rf_G.step (pc' := 118) (st' := [_, _]) rfl rfl ?_
          refine rf_G.step (pc' := 120) (st' := [_, _, _]) rfl rfl ?_
          refine rf_G.step (pc' := 121) (st' := [_, _]) rfl rfl ?_
          refine rf_G.step (pc' := 122) (st' := [_]) rfl rfl ?_
          refine rf_G.brn rfl (fun z => absurd ((lg_cmp_eq0 _ _).mpr g2) z) (fun _ => ?_)
          refine rf_G.step (pc' := 126) (st' := [_]) rfl rfl ?_
          refine rf_G.step (pc' := 130) (st' := [_]) rfl rfl ?_
          refine rf_G.step (pc' := 132) (ls' := [_, _, _, _, _, _, _, _, _, _, _, _, _, _, _]) (st' := []) rfl rfl ?_
          refine rf_G.step (pc' := 134) (st' := [_]) rfl rfl ?_
          refine rf_G.br rfl (jx_br_eq _ _) (fun z => absurd z (by decide)) (fun _ => ?_)
          refine rf_G.step (pc' := 139) (st' := [_]) rfl rfl ?_
          refine rf_G.step (pc' := 141) (ls' := [_, _, _, _, _, _, _, _, _, _, _, _, _, _, _]) (st' := []) rfl rfl ?_
          refine rf_G.step (pc' := 150) (st' := []) rfl rfl ?_
          refine rf_G.step (pc' := 68) (st' := []) rfl rfl ?_
          exact g h H
        · obtain ⟨R4, j4, g⟩ := bad R3 ((j.tr j2).tr j3) (fun x => g2 x.2)
          refine ⟨R4, j4, fun h H => ?_⟩
          refine rf_G.step (pc' := 70) (st' := [_]) rfl rfl ?_
          refine rf_G.step (pc' := 72) (st' := [_, _]) rfl rfl ?_
          refine rf_G.step (pc' := 73) (st' := [_]) rfl rfl ?_
          refine rf_G.br rfl (jx_br_ge _ _) (fun z => absurd z (Int32.not_le.mpr ((lg_cmp_lt0 _ _).mpr (Int64.lt_iff_toInt_lt.mpr hl2)))) (fun _ => ?_)
          refine rf_G.step (pc' := 78) (st' := [_]) rfl rfl ?_
          refine rf_G.step (pc' := 80) (st' := [_, _]) rfl rfl ?_
          refine rf_G.step (pc' := 81) (st' := [_]) rfl rfl ?_
          refine rf_G.step (pc' := 82) (st' := [_, _]) rfl rfl ?_
          refine rf_G.step (pc' := 83) (st' := [_]) rfl rfl ?_
          refine rf_G.step (pc' := 86) (st' := [_, _]) rfl rfl ?_
          refine rf_G.ldiv rfl (by decide) ?_
          rw [hq]
          refine rf_G.step (pc' := 89) (ls' := [_, _, _, _, _, _, _, _, _, _, _, _, _, _, _]) (st' := []) rfl rfl ?_
          refine rf_G.step (pc' := 90) (st' := [_]) rfl rfl ?_
          refine rf_G.step (pc' := 91) (st' := [_, _]) rfl rfl ?_
          refine rf_G.step (pc' := 92) (st' := [_, _, _]) rfl rfl ?_
          refine rf_G.step (pc' := 94) (st' := [_, _, _, _]) rfl rfl ?_
          refine rf_G.step (pc' := 95) (st' := [_, _, _, _]) rfl rfl ?_
          refine rf_G.step (pc' := 96) (st' := [_, _, _, _, _]) rfl rfl ?_
          refine rf_G.step (pc' := 97) (st' := [_, _, _, _, _, _]) rfl rfl ?_
          refine rf_G.v5I H rfl (by decide) rfl ⟨Nat.le_of_ble_eq_true rfl, rfl⟩ (Nat.le_of_ble_eq_true rfl) (c2) (fun h H => ?_)
          refine rf_G.step (pc' := 102) (st' := [_, _]) rfl rfl ?_
          refine rf_G.step (pc' := 103) (st' := [_]) rfl rfl ?_
          refine rf_G.brn rfl (fun z => absurd ((lg_cmp_eq0 _ _).mpr g1) z) (fun _ => ?_)
          refine rf_G.step (pc' := 107) (st' := [_]) rfl rfl ?_
          refine rf_G.step (pc' := 108) (st' := [_, _]) rfl rfl ?_
          refine rf_G.step (pc' := 109) (st' := [_, _, _]) rfl rfl ?_
          refine rf_G.step (pc' := 111) (st' := [_, _, _, _]) rfl rfl ?_
          refine rf_G.step (pc' := 112) (st' := [_, _, _, _, _]) rfl rfl ?_
          refine rf_G.step (pc' := 113) (st' := [_, _, _, _, _, _]) rfl rfl ?_
          refine rf_G.v5I H rfl (by decide) rfl ⟨Nat.le_of_ble_eq_true rfl, rfl⟩ (Nat.le_of_ble_eq_true rfl) (c3) (fun h H => ?_)
          refine rf_G.step (pc' := 118) (st' := [_, _]) rfl rfl ?_
          refine rf_G.step (pc' := 120) (st' := [_, _, _]) rfl rfl ?_
          refine rf_G.step (pc' := 121) (st' := [_, _]) rfl rfl ?_
          refine rf_G.step (pc' := 122) (st' := [_]) rfl rfl ?_
          refine rf_G.brn rfl (fun _ => ?_) (fun z => absurd z (fun x => g2 ((lg_cmp_eq0 _ _).mp x)))
          exact g h H
      · obtain ⟨R4, j4, g⟩ := bad R2 (j.tr j2) (fun x => g1 x.1)
        refine ⟨R4, j4, fun h H => ?_⟩
        refine rf_G.step (pc' := 70) (st' := [_]) rfl rfl ?_
        refine rf_G.step (pc' := 72) (st' := [_, _]) rfl rfl ?_
        refine rf_G.step (pc' := 73) (st' := [_]) rfl rfl ?_
        refine rf_G.br rfl (jx_br_ge _ _) (fun z => absurd z (Int32.not_le.mpr ((lg_cmp_lt0 _ _).mpr (Int64.lt_iff_toInt_lt.mpr hl2)))) (fun _ => ?_)
        refine rf_G.step (pc' := 78) (st' := [_]) rfl rfl ?_
        refine rf_G.step (pc' := 80) (st' := [_, _]) rfl rfl ?_
        refine rf_G.step (pc' := 81) (st' := [_]) rfl rfl ?_
        refine rf_G.step (pc' := 82) (st' := [_, _]) rfl rfl ?_
        refine rf_G.step (pc' := 83) (st' := [_]) rfl rfl ?_
        refine rf_G.step (pc' := 86) (st' := [_, _]) rfl rfl ?_
        refine rf_G.ldiv rfl (by decide) ?_
        rw [hq]
        refine rf_G.step (pc' := 89) (ls' := [_, _, _, _, _, _, _, _, _, _, _, _, _, _, _]) (st' := []) rfl rfl ?_
        refine rf_G.step (pc' := 90) (st' := [_]) rfl rfl ?_
        refine rf_G.step (pc' := 91) (st' := [_, _]) rfl rfl ?_
        refine rf_G.step (pc' := 92) (st' := [_, _, _]) rfl rfl ?_
        refine rf_G.step (pc' := 94) (st' := [_, _, _, _]) rfl rfl ?_
        refine rf_G.step (pc' := 95) (st' := [_, _, _, _]) rfl rfl ?_
        refine rf_G.step (pc' := 96) (st' := [_, _, _, _, _]) rfl rfl ?_
        refine rf_G.step (pc' := 97) (st' := [_, _, _, _, _, _]) rfl rfl ?_
        refine rf_G.v5I H rfl (by decide) rfl ⟨Nat.le_of_ble_eq_true rfl, rfl⟩ (Nat.le_of_ble_eq_true rfl) (c2) (fun h H => ?_)
        refine rf_G.step (pc' := 102) (st' := [_, _]) rfl rfl ?_
        refine rf_G.step (pc' := 103) (st' := [_]) rfl rfl ?_
        refine rf_G.brn rfl (fun _ => ?_) (fun z => absurd z (fun x => g1 ((lg_cmp_eq0 _ _).mp x)))
        exact g h H
theorem rc_carrier (r : Nat) {R : rf_R} {M : Nat} (P : rf_Pre R M 0) (a b level : Int32) (h0 : 0 ≤ (hz_v (R.1 0) b M).toInt) (ht : (hz_v (R.1 0) b M).toInt < 2 ^ 61) : ∃ R2, rf_C 190 r [.ref r, .int a, .int b, .int level] R (some (.long (rf_ca (R.1 0) M a b level))) R2 ∧ rf_J R R2 := by
  by_cases ok : rf_cok a b level
  · have j1 := rf_hR_J P a
    have P1 := rf_hR_pre P a
    have j2 := rf_hR_J P1 b
    have e1 : rf_hv R a M 0 = hz_v (R.1 0) a M := (hz_heat P a).2.1
    have e2 : rf_hv (rf_hR R a M 0) b M 0 = hz_v (R.1 0) b M := by
      rw [(hz_heat P1 b).2.1, j1.1]
    obtain ⟨R4, j4, g⟩ := rc_carrier_loop r R M P a b level (hz_v (R.1 0) a M) (hz_v (R.1 0) b M) ht (hz_v (R.1 0) b M).toInt.toNat 0 (hz_v (R.1 0) b M) (by decide) (Int.le_refl _) (by rw [show (0 : Int64).toInt = 0 from by decide]; omega) (.retAddr 0) (.retAddr 0) (.retAddr 0) _ (j1.tr j2)
    refine ⟨R4, ?_, j4⟩
    unfold rf_ca
    rw [if_pos ok]
    obtain ⟨o1, o2, o3, o4⟩ := ok
    intro h H
    show rf_G r 190 0 [.ref r, .int a, .int b, .int level, .retAddr 0, .retAddr 0, .retAddr 0, .retAddr 0, .retAddr 0, .retAddr 0, .retAddr 0, .retAddr 0, .retAddr 0, .retAddr 0, .retAddr 0] [] h _ _
    refine rf_G.step (pc' := 1) (st' := [_]) rfl rfl ?_
    refine rf_G.step (pc' := 2) (st' := [_]) rfl rfl ?_
    refine rf_G.step (pc' := 3) (st' := [_, _]) rfl rfl ?_
    refine rf_G.step (pc' := 6) (st' := [_, _, _]) rfl rfl ?_
    refine rf_G.s3 rfl (by decide) rfl (Nat.le_of_ble_eq_true rfl) (Nat.le_of_ble_eq_true rfl) (fun h => rc_inI _ _ _ h) ?_
    rw [rf_w, rf_ot (show (0 : Int64).toInt ≤ a.toInt ∧ a.toInt ≤ (2 : Int64).toInt from o1)]
    refine rf_G.br rfl (jx_br_eq _ _) (fun z => absurd z (by decide)) (fun _ => ?_)
    refine rf_G.step (pc' := 13) (st' := [_]) rfl rfl ?_
    refine rf_G.step (pc' := 14) (st' := [_]) rfl rfl ?_
    refine rf_G.step (pc' := 15) (st' := [_, _]) rfl rfl ?_
    refine rf_G.step (pc' := 18) (st' := [_, _, _]) rfl rfl ?_
    refine rf_G.s3 rfl (by decide) rfl (Nat.le_of_ble_eq_true rfl) (Nat.le_of_ble_eq_true rfl) (fun h => rc_inI _ _ _ h) ?_
    rw [rf_w, rf_ot (show (0 : Int64).toInt ≤ b.toInt ∧ b.toInt ≤ (2 : Int64).toInt from o2)]
    refine rf_G.br rfl (jx_br_eq _ _) (fun z => absurd z (by decide)) (fun _ => ?_)
    refine rf_G.step (pc' := 25) (st' := [_]) rfl rfl ?_
    refine rf_G.step (pc' := 26) (st' := [_, _]) rfl rfl ?_
    refine rf_G.bc rfl (jx_br_eq _ _) (fun z => absurd z (o3)) (fun _ => ?_)
    refine rf_G.step (pc' := 30) (st' := [_]) rfl rfl ?_
    refine rf_G.step (pc' := 31) (st' := [_]) rfl rfl ?_
    refine rf_G.step (pc' := 34) (st' := [_, _]) rfl rfl ?_
    refine rf_G.step (pc' := 37) (st' := [_, _, _]) rfl rfl ?_
    refine rf_G.s3 rfl (by decide) rfl (Nat.le_of_ble_eq_true rfl) (Nat.le_of_ble_eq_true rfl) (fun h => rc_inI _ _ _ h) ?_
    rw [rf_w, rf_ot (show (-200 : Int64).toInt ≤ level.toInt ∧ level.toInt ≤ (2000 : Int64).toInt from o4)]
    refine rf_G.brn rfl (fun _ => ?_) (fun z => absurd z (by decide))
    refine rf_G.step (pc' := 48) (st' := [_]) rfl rfl ?_
    refine rf_G.step (pc' := 49) (st' := [_, _]) rfl rfl ?_
    refine rf_G.v1I H rfl (by decide) rfl ⟨Nat.le_of_ble_eq_true rfl, rfl⟩ (Nat.le_of_ble_eq_true rfl) (rc_leastHeat r P a) (fun h H => ?_)
    rw [e1]
    refine rf_G.step (pc' := 54) (ls' := [_, _, _, _, _, _, _, _, _, _, _, _, _, _, _]) (st' := []) rfl rfl ?_
    refine rf_G.step (pc' := 55) (st' := [_]) rfl rfl ?_
    refine rf_G.step (pc' := 56) (st' := [_, _]) rfl rfl ?_
    refine rf_G.v1I H rfl (by decide) rfl ⟨Nat.le_of_ble_eq_true rfl, rfl⟩ (Nat.le_of_ble_eq_true rfl) (rc_leastHeat r P1 b) (fun h H => ?_)
    rw [e2]
    refine rf_G.step (pc' := 61) (ls' := [_, _, _, _, _, _, _, _, _, _, _, _, _, _, _]) (st' := []) rfl rfl ?_
    refine rf_G.step (pc' := 62) (st' := [_]) rfl rfl ?_
    refine rf_G.step (pc' := 64) (ls' := [_, _, _, _, _, _, _, _, _, _, _, _, _, _, _]) (st' := []) rfl rfl ?_
    refine rf_G.step (pc' := 66) (st' := [_]) rfl rfl ?_
    refine rf_G.step (pc' := 68) (ls' := [_, _, _, _, _, _, _, _, _, _, _, _, _, _, _]) (st' := []) rfl rfl ?_
    exact g h H
  · refine ⟨R, ?_, rf_J.rf⟩
    unfold rf_ca
    rw [if_neg ok]
    intro h H
    show rf_G r 190 0 [.ref r, .int a, .int b, .int level, .retAddr 0, .retAddr 0, .retAddr 0, .retAddr 0, .retAddr 0, .retAddr 0, .retAddr 0, .retAddr 0, .retAddr 0, .retAddr 0, .retAddr 0] [] h _ _
    have t43 : ∀ h, rf_At r R h → rf_G r 190 43 [.ref r, .int a, .int b, .int level, .retAddr 0, .retAddr 0, .retAddr 0, .retAddr 0, .retAddr 0, .retAddr 0, .retAddr 0, .retAddr 0, .retAddr 0, .retAddr 0, .retAddr 0] [] h (some (.long (-1))) R := by
      intro h H
      refine rf_G.step (pc' := 46) (st' := [_]) rfl rfl ?_
      exact rf_G.ret H rfl rfl
    refine rf_G.step (pc' := 1) (st' := [_]) rfl rfl ?_
    refine rf_G.step (pc' := 2) (st' := [_]) rfl rfl ?_
    refine rf_G.step (pc' := 3) (st' := [_, _]) rfl rfl ?_
    refine rf_G.step (pc' := 6) (st' := [_, _, _]) rfl rfl ?_
    refine rf_G.s3 rfl (by decide) rfl (Nat.le_of_ble_eq_true rfl) (Nat.le_of_ble_eq_true rfl) (fun h => rc_inI _ _ _ h) ?_
    rw [rf_w]
    refine rf_G.br rfl (jx_br_eq _ _) (fun z1 => ?_) (fun z1 => ?_)
    · exact t43 h H
    have o1 := Decidable.not_not.mp (fun y => z1 ((rf_o_0 _).mpr y))
    refine rf_G.step (pc' := 13) (st' := [_]) rfl rfl ?_
    refine rf_G.step (pc' := 14) (st' := [_]) rfl rfl ?_
    refine rf_G.step (pc' := 15) (st' := [_, _]) rfl rfl ?_
    refine rf_G.step (pc' := 18) (st' := [_, _, _]) rfl rfl ?_
    refine rf_G.s3 rfl (by decide) rfl (Nat.le_of_ble_eq_true rfl) (Nat.le_of_ble_eq_true rfl) (fun h => rc_inI _ _ _ h) ?_
    rw [rf_w]
    refine rf_G.br rfl (jx_br_eq _ _) (fun z2 => ?_) (fun z2 => ?_)
    · exact t43 h H
    have o2 := Decidable.not_not.mp (fun y => z2 ((rf_o_0 _).mpr y))
    refine rf_G.step (pc' := 25) (st' := [_]) rfl rfl ?_
    refine rf_G.step (pc' := 26) (st' := [_, _]) rfl rfl ?_
    refine rf_G.bc rfl (jx_br_eq _ _) (fun o3 => ?_) (fun o3 => ?_)
    · exact t43 h H
    refine rf_G.step (pc' := 30) (st' := [_]) rfl rfl ?_
    refine rf_G.step (pc' := 31) (st' := [_]) rfl rfl ?_
    refine rf_G.step (pc' := 34) (st' := [_, _]) rfl rfl ?_
    refine rf_G.step (pc' := 37) (st' := [_, _, _]) rfl rfl ?_
    refine rf_G.s3 rfl (by decide) rfl (Nat.le_of_ble_eq_true rfl) (Nat.le_of_ble_eq_true rfl) (fun h => rc_inI _ _ _ h) ?_
    rw [rf_w]
    refine rf_G.brn rfl (fun z4 => ?_) (fun z4 => ?_)
    · have o4 := Decidable.not_not.mp (fun y => z4 ((rf_o_0 _).mpr y))
      exact absurd ⟨o1, o2, o3, o4⟩ ok
    · exact t43 h H
