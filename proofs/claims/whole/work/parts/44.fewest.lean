/-! the reference: fewest -/
def rf_total (N : Nat → Int32) (s : Nat) : Int32 := if N (2 + 24 * s) = 1 then N (2 + 24 * s + 5) else rf_tot N s (rf_sp N s)
theorem rc_totalP (r : Nat) {R : rf_R} {M E : Nat} (P : rf_Pre R M E) (s : Nat) (hs : s < M) : rf_C 156 r [.ref r, .int (nI s)] R (some (.int (rf_total (R.1 0) s))) R := rc_total r R s _ (by have := P.hM; omega) (P.ok s hs).1 (P.ok s hs).2
def fw_a (N : Nat → Int32) : Nat → List Int64
  | 0 => []
  | s + 1 => if 3 ≤ N (2 + 24 * s) then fw_a N s else fw_add (fw_a N s) (if N (2 + 24 * s + 1) = 1 then (rf_total N s).toInt64 else (-(rf_total N s)).toInt64)
def fw_up (N : Nat → Int32) (gb lv : Int32) (s : Nat) : Int64 := if N (2 + 24 * s) = 1 ∧ rf_lvl N s (N (2 + 24 * s + 3)) = lv ∧ ¬ gb = 0 then 0 else rf_ab N s lv
def fw_pt (N : Nat → Int32) (b gb lv : Int32) (s : Nat) : Int64 := if b = 0 then fw_up N gb lv s else (rf_total N s).toInt64 - fw_up N gb lv s
def fw_p (N : Nat → Int32) (b gb lv : Int32) : Nat → List Int64
  | 0 => []
  | s + 1 => if 3 ≤ N (2 + 24 * s) then fw_p N b gb lv s else fw_add (fw_p N b gb lv s) (if N (2 + 24 * s + 1) = 1 then fw_pt N b gb lv s else -(fw_pt N b gb lv s))
theorem fw_a_len (N : Nat → Int32) : ∀ s, (fw_a N s).length ≤ s
  | 0 => Nat.le_refl 0
  | s + 1 => by
    have := fw_a_len N s
    unfold fw_a
    split
    · omega
    · exact Nat.le_trans (fw_len _ _) (by omega)
theorem fw_p_len (N : Nat → Int32) (b gb lv : Int32) : ∀ s, (fw_p N b gb lv s).length ≤ s
  | 0 => Nat.le_refl 0
  | s + 1 => by
    have := fw_p_len N b gb lv s
    unfold fw_p
    split
    · omega
    · exact Nat.le_trans (fw_len _ _) (by omega)
def rf_few (N : Nat → Int32) (M : Nat) (k b : Int32) : Int32 :=
  if k = -1 then (if hz_pa N 3 M 0 < 0 then pt_ans (fw_add (fw_add (fw_a N M) (hz_v N 3 M)) (-(hz_cd N 3 M))) else -1)
  else if hz_pa N 3 M k < 0 then -1
  else pt_ans (fw_add (fw_p N b (if hz_ah N 3 M (hz_pa N 3 M k).toNatClampNeg + hz_v N 3 M = 0 then 1 else 0) ((hz_L N 3 M).getD (hz_pa N 3 M k).toNatClampNeg 0) M) (if b = 0 then hz_v N 3 M else -(hz_cd N 3 M)))
theorem rf_kP.J {R R2 : rf_R} (a : rf_kP R R2) (h : R2.1 28 0 = R.1 28 0) : rf_J R R2 := ⟨a.1 0 (by decide), a.1 1 (by decide), fun k _ => by rw [a.2.2], fun k _ => by rw [a.2.2], h⟩
theorem rc_few_a (r : Nat) (R : rf_R) (M : Nat) (P : rf_Pre R M 0) (h0 : R.1 28 0 = 0) (k b : Int32) (v c : Int64) (u8 u9 u10 u11 u12 u13 u14 : Value) : ∀ (d s : Nat), s + d = M → ∀ R1, rf_kI R R1 → rf_Its R1 (fw_a (R.1 0) s) → ∃ R2, rf_J R R2 ∧ ∀ h, rf_At r R1 h → rf_G r 191 56 [.ref r, .int k, .int b, .long v, .retAddr 0, .long c, .retAddr 0, .int (nI s), u8, u9, u10, u11, u12, u13, u14] [] h (some (.int (pt_ans (fw_add (fw_add (fw_a (R.1 0) M) v) (-c))))) R2 := by
  have hM := P.hM
  intro d
  induction d with
  | zero =>
    intro s hs R1 kI it
    obtain rfl : s = M := by omega
    have l1 := fw_a_len (R.1 0) s
    obtain ⟨R2, c2, k2, i2⟩ := rc_item r R1 _ (by omega) it v
    have l2 := fw_len (fw_a (R.1 0) s) v
    obtain ⟨R3, c3, k3, i3⟩ := rc_item r R2 _ (by omega) i2 (-c)
    have l3 := fw_len (fw_add (fw_a (R.1 0) s) v) (-c)
    have kk := (kI.tr k2).tr k3
    obtain ⟨R4, c4, k4, i4⟩ := rc_parted r R3 _ (by omega) i3 (by rw [kk.1]; exact h0)
    refine ⟨R4, kk.J.tr (k4.J (by rw [i4, kk.1, h0])), fun h H => ?_⟩
    have eM : R1.1 0 (Int32.toNatClampNeg 0) = nI s := by rw [kI.1]; exact P.eM
    refine rf_G.step (pc' := 58) (st' := [_]) rfl rfl ?_
    refine rf_G.step (pc' := 59) (st' := [_, _]) rfl rfl ?_
    refine rf_G.get H rfl rfl ?_
    refine rf_G.step (pc' := 63) (st' := [_, _, _]) rfl rfl ?_
    refine rf_G.iald H 0 1 822 (by decide) rfl (rf_ix (n := 0) (by decide) (by decide)) ?_
    rw [eM]
    refine rf_G.bc rfl (jx_br_ge _ _) (fun _ => ?_) (fun z => absurd (Int32.le_refl _) z)
    refine rf_G.step (pc' := 118) (st' := [_]) rfl rfl ?_
    refine rf_G.step (pc' := 119) (st' := [_, _]) rfl rfl ?_
    refine rf_G.v1V H rfl (by decide) rfl ⟨Nat.le_of_ble_eq_true rfl, rfl⟩ (Nat.le_of_ble_eq_true rfl) (c2) (fun h H => ?_)
    refine rf_G.step (pc' := 123) (st' := [_]) rfl rfl ?_
    refine rf_G.step (pc' := 125) (st' := [_, _]) rfl rfl ?_
    refine rf_G.step (pc' := 126) (st' := [_, _]) rfl rfl ?_
    refine rf_G.v1V H rfl (by decide) rfl ⟨Nat.le_of_ble_eq_true rfl, rfl⟩ (Nat.le_of_ble_eq_true rfl) (c3) (fun h H => ?_)
    refine rf_G.step (pc' := 130) (st' := [_]) rfl rfl ?_
    refine rf_G.v0I H rfl (by decide) rfl ⟨Nat.le_of_ble_eq_true rfl, rfl⟩ (Nat.le_of_ble_eq_true rfl) (c4) (fun h H => ?_)
    exact rf_G.ret H rfl rfl
  | succ d ih =>
    intro s hs R1 kI it
    have P1 := kI.J.pre P
    have hs2 : s < 12 := by omega
    have eM : R1.1 0 (Int32.toNatClampNeg 0) = nI M := P1.eM
    have eN : R1.1 0 = R.1 0 := by rw [kI.1]
    have l1 := fw_a_len (R.1 0) s
    by_cases hk : 3 ≤ R.1 0 (2 + 24 * s)
    · have e1 : fw_a (R.1 0) (s + 1) = fw_a (R.1 0) s := by
        conv => lhs; unfold fw_a
        rw [if_pos hk]
      obtain ⟨R2, j, g⟩ := ih (s + 1) (by omega) R1 kI (by rw [e1]; exact it)
      refine ⟨R2, j, fun h H => ?_⟩
      refine rf_G.step (pc' := 58) (st' := [_]) rfl rfl ?_
      refine rf_G.step (pc' := 59) (st' := [_, _]) rfl rfl ?_
      refine rf_G.get H rfl rfl ?_
      refine rf_G.step (pc' := 63) (st' := [_, _, _]) rfl rfl ?_
      refine rf_G.iald H 0 1 822 (by decide) rfl (rf_ix (n := 0) (by decide) (by decide)) ?_
      rw [eM]
      refine rf_G.bc rfl (jx_br_ge _ _) (fun z => absurd z (nI_ge (by omega) (by omega))) (fun _ => ?_)
      refine rf_G.step (pc' := 68) (st' := [_]) rfl rfl ?_
      refine rf_G.step (pc' := 70) (st' := [_, _]) rfl rfl ?_
      refine rf_G.step (pc' := 71) (st' := [_, _, _]) rfl rfl ?_
      refine rf_G.v2I H rfl (by decide) rfl ⟨Nat.le_of_ble_eq_true rfl, rfl⟩ (Nat.le_of_ble_eq_true rfl) (rc_of r R1 s 0 hs2 (by decide)) (fun h H => ?_)
      refine rf_G.step (pc' := 75) (st' := [_, _]) rfl rfl ?_
      rw [eN, Nat.add_zero]
      refine rf_G.bc rfl (jx_br_ge _ _) (fun _ => ?_) (fun z => absurd (hk) z)
      refine rf_G.step (pc' := 114) (ls' := [_, _, _, _, _, _, _, _, _, _, _, _, _, _, _]) (st' := []) rfl rfl ?_
      refine rf_G.step (pc' := 56) (st' := []) rfl rfl ?_
      rw [nI_1]
      exact g h H
    · obtain ⟨R2, c2, k2, i2⟩ := rc_item r R1 _ (by omega) it (if R.1 0 (2 + 24 * s + 1) = 1 then (rf_total (R.1 0) s).toInt64 else (-(rf_total (R.1 0) s)).toInt64)
      have e1 : fw_a (R.1 0) (s + 1) = fw_add (fw_a (R.1 0) s) (if R.1 0 (2 + 24 * s + 1) = 1 then (rf_total (R.1 0) s).toInt64 else (-(rf_total (R.1 0) s)).toInt64) := by
        conv => lhs; unfold fw_a
        rw [if_neg hk]
      rw [← e1] at i2
      obtain ⟨R3, j, g⟩ := ih (s + 1) (by omega) R2 (kI.tr k2) i2
      refine ⟨R3, j, fun h H => ?_⟩
      have ct := rc_totalP r P1 s (by omega)
      rw [eN] at ct
      refine rf_G.step (pc' := 58) (st' := [_]) rfl rfl ?_
      refine rf_G.step (pc' := 59) (st' := [_, _]) rfl rfl ?_
      refine rf_G.get H rfl rfl ?_
      refine rf_G.step (pc' := 63) (st' := [_, _, _]) rfl rfl ?_
      refine rf_G.iald H 0 1 822 (by decide) rfl (rf_ix (n := 0) (by decide) (by decide)) ?_
      rw [eM]
      refine rf_G.bc rfl (jx_br_ge _ _) (fun z => absurd z (nI_ge (by omega) (by omega))) (fun _ => ?_)
      refine rf_G.step (pc' := 68) (st' := [_]) rfl rfl ?_
      refine rf_G.step (pc' := 70) (st' := [_, _]) rfl rfl ?_
      refine rf_G.step (pc' := 71) (st' := [_, _, _]) rfl rfl ?_
      refine rf_G.v2I H rfl (by decide) rfl ⟨Nat.le_of_ble_eq_true rfl, rfl⟩ (Nat.le_of_ble_eq_true rfl) (rc_of r R1 s 0 hs2 (by decide)) (fun h H => ?_)
      refine rf_G.step (pc' := 75) (st' := [_, _]) rfl rfl ?_
      rw [eN, Nat.add_zero]
      refine rf_G.bc rfl (jx_br_ge _ _) (fun z => absurd z (hk)) (fun _ => ?_)
      refine rf_G.step (pc' := 79) (st' := [_]) rfl rfl ?_
      refine rf_G.step (pc' := 80) (st' := [_, _]) rfl rfl ?_
      refine rf_G.step (pc' := 82) (st' := [_, _, _]) rfl rfl ?_
      refine rf_G.step (pc' := 83) (st' := [_, _, _, _]) rfl rfl ?_
      refine rf_G.v2I H rfl (by decide) rfl ⟨Nat.le_of_ble_eq_true rfl, rfl⟩ (Nat.le_of_ble_eq_true rfl) (rc_of r R1 s 1 hs2 (by decide)) (fun h H => ?_)
      refine rf_G.step (pc' := 87) (st' := [_, _, _]) rfl rfl ?_
      rw [eN]
      refine rf_G.bcn rfl (fun z => ?_) (fun z => ?_)
      · rw [if_neg z] at c2
        refine rf_G.step (pc' := 101) (st' := [_, _]) rfl rfl ?_
        refine rf_G.step (pc' := 103) (st' := [_, _, _]) rfl rfl ?_
        refine rf_G.v1I H rfl (by decide) rfl ⟨Nat.le_of_ble_eq_true rfl, rfl⟩ (Nat.le_of_ble_eq_true rfl) (ct) (fun h H => ?_)
        refine rf_G.step (pc' := 107) (st' := [_, _]) rfl rfl ?_
        refine rf_G.step (pc' := 108) (st' := [_, _]) rfl rfl ?_
        refine rf_G.v1V H rfl (by decide) rfl ⟨Nat.le_of_ble_eq_true rfl, rfl⟩ (Nat.le_of_ble_eq_true rfl) (c2) (fun h H => ?_)
        refine rf_G.step (pc' := 114) (ls' := [_, _, _, _, _, _, _, _, _, _, _, _, _, _, _]) (st' := []) rfl rfl ?_
        refine rf_G.step (pc' := 56) (st' := []) rfl rfl ?_
        rw [nI_1]
        exact g h H
      · rw [if_pos z] at c2
        refine rf_G.step (pc' := 91) (st' := [_, _]) rfl rfl ?_
        refine rf_G.step (pc' := 93) (st' := [_, _, _]) rfl rfl ?_
        refine rf_G.v1I H rfl (by decide) rfl ⟨Nat.le_of_ble_eq_true rfl, rfl⟩ (Nat.le_of_ble_eq_true rfl) (ct) (fun h H => ?_)
        refine rf_G.step (pc' := 97) (st' := [_, _]) rfl rfl ?_
        refine rf_G.step (pc' := 108) (st' := [_, _]) rfl rfl ?_
        refine rf_G.v1V H rfl (by decide) rfl ⟨Nat.le_of_ble_eq_true rfl, rfl⟩ (Nat.le_of_ble_eq_true rfl) (c2) (fun h H => ?_)
        refine rf_G.step (pc' := 114) (ls' := [_, _, _, _, _, _, _, _, _, _, _, _, _, _, _]) (st' := []) rfl rfl ?_
        refine rf_G.step (pc' := 56) (st' := []) rfl rfl ?_
        rw [nI_1]
        exact g h H
theorem rc_few_p (r : Nat) (R : rf_R) (M : Nat) (P : rf_Pre R M 0) (h0 : R.1 28 0 = 0) (k b i gb lv : Int32) (v c : Int64) : ∀ (d s : Nat), s + d = M → ∀ R1 (u11 u12 u13 u14 : Value), rf_kI R R1 → rf_Its R1 (fw_p (R.1 0) b gb lv s) → ∃ R2, rf_J R R2 ∧ ∀ h, rf_At r R1 h → rf_G r 191 182 [.ref r, .int k, .int b, .long v, .retAddr 0, .long c, .retAddr 0, .int i, .int gb, .int lv, .int (nI s), u11, u12, u13, u14] [] h (some (.int (pt_ans (fw_add (fw_p (R.1 0) b gb lv M) (if b = 0 then v else -c))))) R2 := by
  have hM := P.hM
  intro d
  induction d with
  | zero =>
    intro s hs R1 u11 u12 u13 u14 kI it
    obtain rfl : s = M := by omega
    have l1 := fw_p_len (R.1 0) b gb lv s
    obtain ⟨R2, c2, k2, i2⟩ := rc_item r R1 _ (by omega) it (if b = 0 then v else -c)
    have l2 := fw_len (fw_p (R.1 0) b gb lv s) (if b = 0 then v else -c)
    have kk := kI.tr k2
    obtain ⟨R4, c4, k4, i4⟩ := rc_parted r R2 _ (by omega) i2 (by rw [kk.1]; exact h0)
    refine ⟨R4, kk.J.tr (k4.J (by rw [i4, kk.1, h0])), fun h H => ?_⟩
    have eM : R1.1 0 (Int32.toNatClampNeg 0) = nI s := by rw [kI.1]; exact P.eM
    refine rf_G.step (pc' := 184) (st' := [_]) rfl rfl ?_
    refine rf_G.step (pc' := 185) (st' := [_, _]) rfl rfl ?_
    refine rf_G.get H rfl rfl ?_
    refine rf_G.step (pc' := 189) (st' := [_, _, _]) rfl rfl ?_
    refine rf_G.iald H 0 1 822 (by decide) rfl (rf_ix (n := 0) (by decide) (by decide)) ?_
    rw [eM]
    refine rf_G.bc rfl (jx_br_ge _ _) (fun _ => ?_) (fun z => absurd (Int32.le_refl _) z)
    refine rf_G.step (pc' := 305) (st' := [_]) rfl rfl ?_
    refine rf_G.step (pc' := 306) (st' := [_, _]) rfl rfl ?_
    refine rf_G.br rfl (jx_br_eq _ _) (fun z => ?_) (fun z => ?_)
    · rw [if_pos z] at c2 c4 ⊢
      refine rf_G.step (pc' := 316) (st' := [_, _]) rfl rfl ?_
      refine rf_G.v1V H rfl (by decide) rfl ⟨Nat.le_of_ble_eq_true rfl, rfl⟩ (Nat.le_of_ble_eq_true rfl) (c2) (fun h H => ?_)
      refine rf_G.step (pc' := 320) (st' := [_]) rfl rfl ?_
      refine rf_G.v0I H rfl (by decide) rfl ⟨Nat.le_of_ble_eq_true rfl, rfl⟩ (Nat.le_of_ble_eq_true rfl) (c4) (fun h H => ?_)
      exact rf_G.ret H rfl rfl
    · rw [if_neg z] at c2 c4 ⊢
      refine rf_G.step (pc' := 311) (st' := [_, _]) rfl rfl ?_
      refine rf_G.step (pc' := 312) (st' := [_, _]) rfl rfl ?_
      refine rf_G.step (pc' := 316) (st' := [_, _]) rfl rfl ?_
      refine rf_G.v1V H rfl (by decide) rfl ⟨Nat.le_of_ble_eq_true rfl, rfl⟩ (Nat.le_of_ble_eq_true rfl) (c2) (fun h H => ?_)
      refine rf_G.step (pc' := 320) (st' := [_]) rfl rfl ?_
      refine rf_G.v0I H rfl (by decide) rfl ⟨Nat.le_of_ble_eq_true rfl, rfl⟩ (Nat.le_of_ble_eq_true rfl) (c4) (fun h H => ?_)
      exact rf_G.ret H rfl rfl
  | succ d ih =>
    intro s hs R1 u11 u12 u13 u14 kI it
    have P1 := kI.J.pre P
    have hs2 : s < 12 := by omega
    have eM : R1.1 0 (Int32.toNatClampNeg 0) = nI M := P1.eM
    have eN : R1.1 0 = R.1 0 := by rw [kI.1]
    have l1 := fw_p_len (R.1 0) b gb lv s
    by_cases hk : 3 ≤ R.1 0 (2 + 24 * s)
    · have e1 : fw_p (R.1 0) b gb lv (s + 1) = fw_p (R.1 0) b gb lv s := by
        conv => lhs; unfold fw_p
        rw [if_pos hk]
      obtain ⟨R2, j, g⟩ := ih (s + 1) (by omega) R1 u11 u12 u13 u14 kI (by rw [e1]; exact it)
      refine ⟨R2, j, fun h H => ?_⟩
      refine rf_G.step (pc' := 184) (st' := [_]) rfl rfl ?_
      refine rf_G.step (pc' := 185) (st' := [_, _]) rfl rfl ?_
      refine rf_G.get H rfl rfl ?_
      refine rf_G.step (pc' := 189) (st' := [_, _, _]) rfl rfl ?_
      refine rf_G.iald H 0 1 822 (by decide) rfl (rf_ix (n := 0) (by decide) (by decide)) ?_
      rw [eM]
      refine rf_G.bc rfl (jx_br_ge _ _) (fun z => absurd z (nI_ge (by omega) (by omega))) (fun _ => ?_)
      refine rf_G.step (pc' := 194) (st' := [_]) rfl rfl ?_
      refine rf_G.step (pc' := 196) (st' := [_, _]) rfl rfl ?_
      refine rf_G.step (pc' := 197) (st' := [_, _, _]) rfl rfl ?_
      refine rf_G.v2I H rfl (by decide) rfl ⟨Nat.le_of_ble_eq_true rfl, rfl⟩ (Nat.le_of_ble_eq_true rfl) (rc_of r R1 s 0 hs2 (by decide)) (fun h H => ?_)
      refine rf_G.step (pc' := 201) (st' := [_, _]) rfl rfl ?_
      rw [eN, Nat.add_zero]
      refine rf_G.bc rfl (jx_br_lt _ _) (fun z => absurd z (Int32.not_lt.mpr hk)) (fun _ => ?_)
      refine rf_G.step (pc' := 298) (st' := []) rfl rfl ?_
      refine rf_G.step (pc' := 301) (ls' := [_, _, _, _, _, _, _, _, _, _, _, _, _, _, _]) (st' := []) rfl rfl ?_
      refine rf_G.step (pc' := 182) (st' := []) rfl rfl ?_
      rw [nI_1]
      exact g h H
    · obtain ⟨R2, c2, k2, i2⟩ := rc_item r R1 _ (by omega) it (if R.1 0 (2 + 24 * s + 1) = 1 then fw_pt (R.1 0) b gb lv s else -(fw_pt (R.1 0) b gb lv s))
      have e1 : fw_p (R.1 0) b gb lv (s + 1) = fw_add (fw_p (R.1 0) b gb lv s) (if R.1 0 (2 + 24 * s + 1) = 1 then fw_pt (R.1 0) b gb lv s else -(fw_pt (R.1 0) b gb lv s)) := by
        conv => lhs; unfold fw_p
        rw [if_neg hk]
      rw [← e1] at i2
      obtain ⟨R3, j, g⟩ := ih (s + 1) (by omega) R2 (.long (fw_up (R.1 0) gb lv s)) (.retAddr 0) (.long (fw_pt (R.1 0) b gb lv s)) (.retAddr 0) (kI.tr k2) i2
      refine ⟨R3, j, fun h H => ?_⟩
      have ct := rc_totalP r P1 s (by omega)
      have ca := rc_above r R1 s hs2 (P1.ok s (by omega)).1 (P1.ok s (by omega)).2 lv
      have cl := rc_levelAt r R1 s hs2 (R1.1 0 (2 + 24 * s + 3))
      rw [eN] at ct ca cl
      have t273 : ∀ h, rf_At r R1 h → rf_G r 191 273 [.ref r, .int k, .int b, .long v, .retAddr 0, .long c, .retAddr 0, .int i, .int gb, .int lv, .int (nI s), .long (fw_up (R.1 0) gb lv s), .retAddr 0, u13, u14] [.long (fw_pt (R.1 0) b gb lv s)] h (some (.int (pt_ans (fw_add (fw_p (R.1 0) b gb lv M) (if b = 0 then v else -c))))) R3 := by
        intro h H
        refine rf_G.step (pc' := 275) (ls' := [_, _, _, _, _, _, _, _, _, _, _, _, _, _, _]) (st' := []) rfl rfl ?_
        refine rf_G.step (pc' := 276) (st' := [_]) rfl rfl ?_
        refine rf_G.step (pc' := 277) (st' := [_, _]) rfl rfl ?_
        refine rf_G.step (pc' := 279) (st' := [_, _, _]) rfl rfl ?_
        refine rf_G.step (pc' := 280) (st' := [_, _, _, _]) rfl rfl ?_
        refine rf_G.v2I H rfl (by decide) rfl ⟨Nat.le_of_ble_eq_true rfl, rfl⟩ (Nat.le_of_ble_eq_true rfl) (rc_of r R1 s 1 hs2 (by decide)) (fun h H => ?_)
        refine rf_G.step (pc' := 284) (st' := [_, _, _]) rfl rfl ?_
        rw [eN]
        refine rf_G.bcn rfl (fun z => ?_) (fun z => ?_)
        · rw [if_neg z] at c2
          refine rf_G.step (pc' := 294) (st' := [_, _]) rfl rfl ?_
          refine rf_G.step (pc' := 295) (st' := [_, _]) rfl rfl ?_
          refine rf_G.v1V H rfl (by decide) rfl ⟨Nat.le_of_ble_eq_true rfl, rfl⟩ (Nat.le_of_ble_eq_true rfl) (c2) (fun h H => ?_)
          refine rf_G.step (pc' := 301) (ls' := [_, _, _, _, _, _, _, _, _, _, _, _, _, _, _]) (st' := []) rfl rfl ?_
          refine rf_G.step (pc' := 182) (st' := []) rfl rfl ?_
          rw [nI_1]
          exact g h H
        · rw [if_pos z] at c2
          refine rf_G.step (pc' := 289) (st' := [_, _]) rfl rfl ?_
          refine rf_G.step (pc' := 295) (st' := [_, _]) rfl rfl ?_
          refine rf_G.v1V H rfl (by decide) rfl ⟨Nat.le_of_ble_eq_true rfl, rfl⟩ (Nat.le_of_ble_eq_true rfl) (c2) (fun h H => ?_)
          refine rf_G.step (pc' := 301) (ls' := [_, _, _, _, _, _, _, _, _, _, _, _, _, _, _]) (st' := []) rfl rfl ?_
          refine rf_G.step (pc' := 182) (st' := []) rfl rfl ?_
          rw [nI_1]
          exact g h H
      have t254 : ∀ h, rf_At r R1 h → rf_G r 191 254 [.ref r, .int k, .int b, .long v, .retAddr 0, .long c, .retAddr 0, .int i, .int gb, .int lv, .int (nI s), .long (fw_up (R.1 0) gb lv s), .retAddr 0, u13, u14] [] h (some (.int (pt_ans (fw_add (fw_p (R.1 0) b gb lv M) (if b = 0 then v else -c))))) R3 := by
        intro h H
        unfold fw_pt at t273
        refine rf_G.step (pc' := 255) (st' := [_]) rfl rfl ?_
        refine rf_G.br rfl (jx_br_eq _ _) (fun z => ?_) (fun z => ?_)
        · rw [if_pos z] at t273
          refine rf_G.step (pc' := 273) (st' := [_]) rfl rfl ?_
          exact t273 h H
        · rw [if_neg z] at t273
          refine rf_G.step (pc' := 259) (st' := [_]) rfl rfl ?_
          refine rf_G.step (pc' := 261) (st' := [_, _]) rfl rfl ?_
          refine rf_G.v1I H rfl (by decide) rfl ⟨Nat.le_of_ble_eq_true rfl, rfl⟩ (Nat.le_of_ble_eq_true rfl) (ct) (fun h H => ?_)
          refine rf_G.step (pc' := 265) (st' := [_]) rfl rfl ?_
          refine rf_G.step (pc' := 267) (st' := [_, _]) rfl rfl ?_
          refine rf_G.step (pc' := 268) (st' := [_]) rfl rfl ?_
          refine rf_G.step (pc' := 273) (st' := [_]) rfl rfl ?_
          exact t273 h H
      refine rf_G.step (pc' := 184) (st' := [_]) rfl rfl ?_
      refine rf_G.step (pc' := 185) (st' := [_, _]) rfl rfl ?_
      refine rf_G.get H rfl rfl ?_
      refine rf_G.step (pc' := 189) (st' := [_, _, _]) rfl rfl ?_
      refine rf_G.iald H 0 1 822 (by decide) rfl (rf_ix (n := 0) (by decide) (by decide)) ?_
      rw [eM]
      refine rf_G.bc rfl (jx_br_ge _ _) (fun z => absurd z (nI_ge (by omega) (by omega))) (fun _ => ?_)
      refine rf_G.step (pc' := 194) (st' := [_]) rfl rfl ?_
      refine rf_G.step (pc' := 196) (st' := [_, _]) rfl rfl ?_
      refine rf_G.step (pc' := 197) (st' := [_, _, _]) rfl rfl ?_
      refine rf_G.v2I H rfl (by decide) rfl ⟨Nat.le_of_ble_eq_true rfl, rfl⟩ (Nat.le_of_ble_eq_true rfl) (rc_of r R1 s 0 hs2 (by decide)) (fun h H => ?_)
      refine rf_G.step (pc' := 201) (st' := [_, _]) rfl rfl ?_
      rw [eN, Nat.add_zero]
      refine rf_G.bc rfl (jx_br_lt _ _) (fun _ => ?_) (fun z => absurd (Int32.not_le.mp hk) z)
      refine rf_G.step (pc' := 208) (st' := [_]) rfl rfl ?_
      refine rf_G.step (pc' := 210) (st' := [_, _]) rfl rfl ?_
      refine rf_G.step (pc' := 212) (st' := [_, _, _]) rfl rfl ?_
      refine rf_G.v2I H rfl (by decide) rfl ⟨Nat.le_of_ble_eq_true rfl, rfl⟩ (Nat.le_of_ble_eq_true rfl) (ca) (fun h H => ?_)
      refine rf_G.step (pc' := 217) (ls' := [_, _, _, _, _, _, _, _, _, _, _, _, _, _, _]) (st' := []) rfl rfl ?_
      refine rf_G.step (pc' := 218) (st' := [_]) rfl rfl ?_
      refine rf_G.step (pc' := 220) (st' := [_, _]) rfl rfl ?_
      refine rf_G.step (pc' := 221) (st' := [_, _, _]) rfl rfl ?_
      refine rf_G.v2I H rfl (by decide) rfl ⟨Nat.le_of_ble_eq_true rfl, rfl⟩ (Nat.le_of_ble_eq_true rfl) (rc_of r R1 s 0 hs2 (by decide)) (fun h H => ?_)
      refine rf_G.step (pc' := 225) (st' := [_, _]) rfl rfl ?_
      rw [eN, Nat.add_zero]
      refine rf_G.bcn rfl (fun z1 => ?_) (fun z1 => ?_)
      · rw [show fw_up (R.1 0) gb lv s = rf_ab (R.1 0) s lv from if_neg (fun q => z1 q.1)] at t254
        exact t254 h H
      · refine rf_G.step (pc' := 229) (st' := [_]) rfl rfl ?_
        refine rf_G.step (pc' := 231) (st' := [_, _]) rfl rfl ?_
        refine rf_G.step (pc' := 232) (st' := [_, _, _]) rfl rfl ?_
        refine rf_G.step (pc' := 234) (st' := [_, _, _, _]) rfl rfl ?_
        refine rf_G.step (pc' := 235) (st' := [_, _, _, _, _]) rfl rfl ?_
        refine rf_G.v2I H rfl (by decide) rfl ⟨Nat.le_of_ble_eq_true rfl, rfl⟩ (Nat.le_of_ble_eq_true rfl) (rc_of r R1 s 3 hs2 (by decide)) (fun h H => ?_)
        rw [eN]
        refine rf_G.v2I H rfl (by decide) rfl ⟨Nat.le_of_ble_eq_true rfl, rfl⟩ (Nat.le_of_ble_eq_true rfl) (cl) (fun h H => ?_)
        refine rf_G.step (pc' := 243) (st' := [_, _]) rfl rfl ?_
        refine rf_G.bcn rfl (fun z2 => ?_) (fun z2 => ?_)
        · rw [show fw_up (R.1 0) gb lv s = rf_ab (R.1 0) s lv from if_neg (fun q => z2 q.2.1)] at t254
          exact t254 h H
        · refine rf_G.step (pc' := 248) (st' := [_]) rfl rfl ?_
          refine rf_G.br rfl (jx_br_eq _ _) (fun z3 => ?_) (fun z3 => ?_)
          · rw [show fw_up (R.1 0) gb lv s = rf_ab (R.1 0) s lv from if_neg (fun q => q.2.2 z3)] at t254
            exact t254 h H
          · rw [show fw_up (R.1 0) gb lv s = 0 from if_pos ⟨z1, z2, z3⟩] at t254
            refine rf_G.step (pc' := 252) (st' := [_]) rfl rfl ?_
            refine rf_G.step (pc' := 254) (ls' := [_, _, _, _, _, _, _, _, _, _, _, _, _, _, _]) (st' := []) rfl rfl ?_
            exact t254 h H
theorem rc_fewest (r : Nat) {R : rf_R} {M : Nat} (P : rf_Pre R M 0) (h0 : R.1 28 0 = 0) (k b : Int32) : ∃ R2, rf_C 191 r [.ref r, .int k, .int b] R (some (.int (rf_few (R.1 0) M k b))) R2 ∧ rf_J R R2 := by
  have P0 : rf_Pre (rf_sI R 25 0) M 0 := ⟨P.hM, P.hE, P.eM, P.eE, P.ok⟩
  have J0 : rf_J R (rf_sI R 25 0) := ⟨rfl, rfl, fun k hk => if_neg (by omega), fun _ _ => rfl, rfl⟩
  have e25 : (rf_sI R 25 0).2.2.1 25 = nI 0 := rfl
  have put : ∀ vv R2, (∀ h, rf_At r (rf_sI R 25 0) h → rf_G r 191 5 [.ref r, .int k, .int b, .retAddr 0, .retAddr 0, .retAddr 0, .retAddr 0, .retAddr 0, .retAddr 0, .retAddr 0, .retAddr 0, .retAddr 0, .retAddr 0, .retAddr 0, .retAddr 0] [] h vv R2) → rf_C 191 r [.ref r, .int k, .int b] R vv R2 := by
    intro vv R2 g h H
    show rf_G r 191 0 [.ref r, .int k, .int b, .retAddr 0, .retAddr 0, .retAddr 0, .retAddr 0, .retAddr 0, .retAddr 0, .retAddr 0, .retAddr 0, .retAddr 0, .retAddr 0, .retAddr 0, .retAddr 0] [] h _ _
    refine rf_G.step (pc' := 1) (st' := [_]) rfl rfl ?_
    refine rf_G.step (pc' := 2) (st' := [_, _]) rfl rfl ?_
    refine rf_G.putI H rfl rfl (by decide) rfl (fun h H => ?_)
    exact g h H
  generalize hR0 : rf_sI R 25 0 = R0 at *
  have ka := rf_hR_kp P0 3
  have Ja := J0.tr (rf_hR_J P0 3)
  have Pa := rf_hR_pre P0 3
  have kb := rf_hR_kp Pa 3
  have Jb := Ja.tr (rf_hR_J Pa 3)
  have Pb := rf_hR_pre Pa 3
  have hn : rf_hn R0 3 M 0 ≤ 110 := rf_las_n P0 3
  have hn2 : rf_hn (rf_hR R0 3 M 0) 3 M 0 ≤ 110 := rf_las_n Pa 3
  obtain ⟨a1, a2, a3⟩ := hz_heat P0 3
  have a4 := hz_cold P0 3
  have b4 := hz_pat Pa 3
  obtain ⟨b1, b2, b3⟩ := hz_heat Pa 3
  have b5 := hz_lev Pa 3
  rw [Ja.1] at b1 b2 b3 b4 b5
  rw [J0.1] at a1 a2 a3 a4
  have its : rf_Its (rf_hR (rf_hR R0 3 M 0) 3 M 0) [] := ⟨by rw [kb.2.2.2.2.2.2.1 25 (by decide), ka.2.2.2.2.2.2.1 25 (by decide)]; exact e25, fun k hk => absurd hk (by simp)⟩
  have h0b : (rf_hR (rf_hR R0 3 M 0) 3 M 0).1 28 0 = 0 := by rw [Jb.2.2.2.2]; exact h0
  have cL := rc_leastHeat r P0 3
  have cP := fun k => rc_pinchAt r Pa 3 k
  rw [a2] at cL
  simp only [b4] at cP
  have pre : ∀ vv R2, (∀ h, rf_At r (rf_hR R0 3 M 0) h → rf_G r 191 37 [.ref r, .int k, .int b, .long (hz_v (R.1 0) 3 M), .retAddr 0, .long (hz_cd (R.1 0) 3 M), .retAddr 0, .retAddr 0, .retAddr 0, .retAddr 0, .retAddr 0, .retAddr 0, .retAddr 0, .retAddr 0, .retAddr 0] [] h vv R2) → rf_C 191 r [.ref r, .int k, .int b] R vv R2 := by
    intro vv R2 g
    refine put vv R2 (fun h H => ?_)
    unfold rf_cd at a4
    refine rf_G.step (pc' := 6) (st' := [_]) rfl rfl ?_
    refine rf_G.step (pc' := 7) (st' := [_, _]) rfl rfl ?_
    refine rf_G.v1I H rfl (by decide) rfl ⟨Nat.le_of_ble_eq_true rfl, rfl⟩ (Nat.le_of_ble_eq_true rfl) (cL) (fun h H => ?_)
    refine rf_G.step (pc' := 11) (ls' := [_, _, _, _, _, _, _, _, _, _, _, _, _, _, _]) (st' := []) rfl rfl ?_
    refine rf_G.step (pc' := 12) (st' := [_]) rfl rfl ?_
    refine rf_G.get H rfl rfl ?_
    rw [ka.2.2.1]
    refine rf_G.brn rfl (fun z => ?_) (fun z => ?_)
    · have z1 : ¬ rf_hn R0 3 M 0 = 0 := fun q => z ((nI_z (by omega)).mpr q)
      rw [if_neg z1, a2] at a4
      refine rf_G.step (pc' := 23) (st' := [_]) rfl rfl ?_
      refine rf_G.get H rfl rfl ?_
      refine rf_G.step (pc' := 27) (st' := [_, _]) rfl rfl ?_
      refine rf_G.get H rfl rfl ?_
      rw [ka.2.2.1]
      refine rf_G.step (pc' := 31) (st' := [_, _, _]) rfl rfl ?_
      refine rf_G.step (pc' := 32) (st' := [_, _]) rfl rfl ?_
      rw [show nI (rf_hn R0 3 M 0) - 1 = nI (rf_hn R0 3 M 0 - 1) by
        obtain ⟨j, hj⟩ : ∃ j, rf_hn R0 3 M 0 = j + 1 := ⟨rf_hn R0 3 M 0 - 1, by omega⟩
        rw [hj, nI_pred]; rfl]
      refine rf_G.lald H 12 8 130 (by decide) rfl (rf_ix (by omega) (by decide)) ?_
      rw [nI_clamp (by omega), ka.2.2.2.2.2.1]
      refine rf_G.step (pc' := 34) (st' := [_, _]) rfl rfl ?_
      refine rf_G.step (pc' := 35) (st' := [_]) rfl rfl ?_
      rw [a4]
      refine rf_G.step (pc' := 37) (ls' := [_, _, _, _, _, _, _, _, _, _, _, _, _, _, _]) (st' := []) rfl rfl ?_
      exact g h H
    · have z1 : rf_hn R0 3 M 0 = 0 := (nI_z (by omega)).mp z
      rw [if_pos z1] at a4
      refine rf_G.step (pc' := 19) (st' := [_]) rfl rfl ?_
      refine rf_G.step (pc' := 35) (st' := [_]) rfl rfl ?_
      rw [a4]
      refine rf_G.step (pc' := 37) (ls' := [_, _, _, _, _, _, _, _, _, _, _, _, _, _, _]) (st' := []) rfl rfl ?_
      exact g h H
  unfold rf_few
  by_cases hk : k = -1
  · rw [if_pos hk]
    by_cases hp : hz_pa (R.1 0) 3 M 0 < 0
    · rw [if_pos hp]
      obtain ⟨R2, j, g⟩ := rc_few_a r _ M Pb h0b k b (hz_v (R.1 0) 3 M) (hz_cd (R.1 0) 3 M) (.retAddr 0) (.retAddr 0) (.retAddr 0) (.retAddr 0) (.retAddr 0) (.retAddr 0) (.retAddr 0) M 0 (by omega) _ rf_kI.rf its
      rw [Jb.1] at g
      refine ⟨R2, pre _ _ (fun h H => ?_), Jb.tr j⟩
      refine rf_G.step (pc' := 38) (st' := [_]) rfl rfl ?_
      refine rf_G.step (pc' := 39) (st' := [_, _]) rfl rfl ?_
      refine rf_G.bcn rfl (fun z => absurd (hk) z) (fun _ => ?_)
      refine rf_G.step (pc' := 43) (st' := [_]) rfl rfl ?_
      refine rf_G.step (pc' := 44) (st' := [_, _]) rfl rfl ?_
      refine rf_G.step (pc' := 45) (st' := [_, _, _]) rfl rfl ?_
      refine rf_G.v2I H rfl (by decide) rfl ⟨Nat.le_of_ble_eq_true rfl, rfl⟩ (Nat.le_of_ble_eq_true rfl) (cP 0) (fun h H => ?_)
      refine rf_G.br rfl (jx_br_lt _ _) (fun _ => ?_) (fun z => absurd (hp) z)
      refine rf_G.step (pc' := 54) (st' := [_]) rfl rfl ?_
      refine rf_G.step (pc' := 56) (ls' := [_, _, _, _, _, _, _, _, _, _, _, _, _, _, _]) (st' := []) rfl rfl ?_
      exact g h H
    · rw [if_neg hp]
      refine ⟨_, pre _ _ (fun h H => ?_), Jb⟩
      refine rf_G.step (pc' := 38) (st' := [_]) rfl rfl ?_
      refine rf_G.step (pc' := 39) (st' := [_, _]) rfl rfl ?_
      refine rf_G.bcn rfl (fun z => absurd (hk) z) (fun _ => ?_)
      refine rf_G.step (pc' := 43) (st' := [_]) rfl rfl ?_
      refine rf_G.step (pc' := 44) (st' := [_, _]) rfl rfl ?_
      refine rf_G.step (pc' := 45) (st' := [_, _, _]) rfl rfl ?_
      refine rf_G.v2I H rfl (by decide) rfl ⟨Nat.le_of_ble_eq_true rfl, rfl⟩ (Nat.le_of_ble_eq_true rfl) (cP 0) (fun h H => ?_)
      refine rf_G.br rfl (jx_br_lt _ _) (fun z => absurd z (hp)) (fun _ => ?_)
      refine rf_G.step (pc' := 52) (st' := [_]) rfl rfl ?_
      exact rf_G.ret H rfl rfl
  · rw [if_neg hk]
    by_cases hp : hz_pa (R.1 0) 3 M k < 0
    · rw [if_pos hp]
      refine ⟨_, pre _ _ (fun h H => ?_), Jb⟩
      refine rf_G.step (pc' := 38) (st' := [_]) rfl rfl ?_
      refine rf_G.step (pc' := 39) (st' := [_, _]) rfl rfl ?_
      refine rf_G.bcn rfl (fun _ => ?_) (fun z => absurd z (hk))
      refine rf_G.step (pc' := 135) (st' := [_]) rfl rfl ?_
      refine rf_G.step (pc' := 136) (st' := [_, _]) rfl rfl ?_
      refine rf_G.step (pc' := 137) (st' := [_, _, _]) rfl rfl ?_
      refine rf_G.v2I H rfl (by decide) rfl ⟨Nat.le_of_ble_eq_true rfl, rfl⟩ (Nat.le_of_ble_eq_true rfl) (cP k) (fun h H => ?_)
      refine rf_G.step (pc' := 142) (ls' := [_, _, _, _, _, _, _, _, _, _, _, _, _, _, _]) (st' := []) rfl rfl ?_
      refine rf_G.step (pc' := 144) (st' := [_]) rfl rfl ?_
      refine rf_G.br rfl (jx_br_ge _ _) (fun z => absurd z (Int32.not_le.mpr hp)) (fun _ => ?_)
      refine rf_G.step (pc' := 148) (st' := [_]) rfl rfl ?_
      exact rf_G.ret H rfl rfl
    · rw [if_neg hp]
      rcases rf_pn_in (hz_ah (R.1 0) 3 M) (hz_be (R.1 0) 3 M) (hz_n (R.1 0) 3 M) (hz_v (R.1 0) 3 M) k (hz_n (R.1 0) 3 M) 0 0 with q | ⟨j, q1, q2, q3⟩
      · exact absurd (show hz_pa (R.1 0) 3 M k < 0 by unfold hz_pa; rw [q]; decide) hp
      · have q4 : hz_pa (R.1 0) 3 M k = nI j := q3
        have hj : j < rf_hn (rf_hR R0 3 M 0) 3 M 0 := by omega
        rw [q4, nI_clamp (by omega)]
        have nx := fun gb => rc_few_p r _ M Pb h0b k b (nI j) gb ((hz_L (R.1 0) 3 M).getD j 0) (hz_v (R.1 0) 3 M) (hz_cd (R.1 0) 3 M) M 0 (by omega) _ (.retAddr 0) (.retAddr 0) (.retAddr 0) (.retAddr 0) rf_kI.rf its
        rw [Jb.1] at nx
        obtain ⟨R2, J2, g⟩ := nx (if hz_ah (R.1 0) 3 M j + hz_v (R.1 0) 3 M = 0 then 1 else 0)
        refine ⟨R2, pre _ _ (fun h H => ?_), Jb.tr J2⟩
        have t168 : ∀ h, rf_At r (rf_hR (rf_hR R0 3 M 0) 3 M 0) h → rf_G r 191 168 [.ref r, .int k, .int b, .long (hz_v (R.1 0) 3 M), .retAddr 0, .long (hz_cd (R.1 0) 3 M), .retAddr 0, .int (nI j), .retAddr 0, .retAddr 0, .retAddr 0, .retAddr 0, .retAddr 0, .retAddr 0, .retAddr 0] [.int (if hz_ah (R.1 0) 3 M j + hz_v (R.1 0) 3 M = 0 then 1 else 0)] h (some (.int (pt_ans (fw_add (fw_p (R.1 0) b (if hz_ah (R.1 0) 3 M j + hz_v (R.1 0) 3 M = 0 then 1 else 0) ((hz_L (R.1 0) 3 M).getD j 0) M) (if b = 0 then hz_v (R.1 0) 3 M else -(hz_cd (R.1 0) 3 M)))))) R2 := by
          intro h H
          refine rf_G.step (pc' := 170) (ls' := [_, _, _, _, _, _, _, _, _, _, _, _, _, _, _]) (st' := []) rfl rfl ?_
          refine rf_G.step (pc' := 171) (st' := [_]) rfl rfl ?_
          refine rf_G.get H rfl rfl ?_
          refine rf_G.step (pc' := 176) (st' := [_, _]) rfl rfl ?_
          refine rf_G.iald H 9 6 130 (by decide) rfl (rf_ix (by omega) (by decide)) ?_
          rw [nI_clamp (by omega), kb.2.1, b5 j hj]
          refine rf_G.step (pc' := 179) (ls' := [_, _, _, _, _, _, _, _, _, _, _, _, _, _, _]) (st' := []) rfl rfl ?_
          refine rf_G.step (pc' := 180) (st' := [_]) rfl rfl ?_
          refine rf_G.step (pc' := 182) (ls' := [_, _, _, _, _, _, _, _, _, _, _, _, _, _, _]) (st' := []) rfl rfl ?_
          exact g h H
        refine rf_G.step (pc' := 38) (st' := [_]) rfl rfl ?_
        refine rf_G.step (pc' := 39) (st' := [_, _]) rfl rfl ?_
        refine rf_G.bcn rfl (fun _ => ?_) (fun z => absurd z (hk))
        refine rf_G.step (pc' := 135) (st' := [_]) rfl rfl ?_
        refine rf_G.step (pc' := 136) (st' := [_, _]) rfl rfl ?_
        refine rf_G.step (pc' := 137) (st' := [_, _, _]) rfl rfl ?_
        refine rf_G.v2I H rfl (by decide) rfl ⟨Nat.le_of_ble_eq_true rfl, rfl⟩ (Nat.le_of_ble_eq_true rfl) (cP k) (fun h H => ?_)
        rw [q4]
        refine rf_G.step (pc' := 142) (ls' := [_, _, _, _, _, _, _, _, _, _, _, _, _, _, _]) (st' := []) rfl rfl ?_
        refine rf_G.step (pc' := 144) (st' := [_]) rfl rfl ?_
        refine rf_G.br rfl (jx_br_ge _ _) (fun _ => ?_) (fun z => absurd (nI_pos' (by omega)) z)
        refine rf_G.step (pc' := 150) (st' := [_]) rfl rfl ?_
        refine rf_G.get H rfl rfl ?_
        refine rf_G.step (pc' := 155) (st' := [_, _]) rfl rfl ?_
        refine rf_G.lald H 11 7 130 (by decide) rfl (rf_ix (by omega) (by decide)) ?_
        rw [nI_clamp (by omega), kb.2.2.2.2.1, (b3 j hj).1]
        refine rf_G.step (pc' := 157) (st' := [_, _]) rfl rfl ?_
        refine rf_G.step (pc' := 158) (st' := [_]) rfl rfl ?_
        refine rf_G.step (pc' := 159) (st' := [_, _]) rfl rfl ?_
        refine rf_G.step (pc' := 160) (st' := [_]) rfl rfl ?_
        by_cases hz : hz_ah (R.1 0) 3 M j + hz_v (R.1 0) 3 M = 0
        · rw [if_pos hz] at t168
          rw [if_pos hz]
          refine rf_G.brn rfl (fun z => absurd ((lg_cmp_eq0 _ _).mpr hz) z) (fun _ => ?_)
          refine rf_G.step (pc' := 164) (st' := [_]) rfl rfl ?_
          refine rf_G.step (pc' := 168) (st' := [_]) rfl rfl ?_
          exact t168 h H
        · rw [if_neg hz] at t168
          rw [if_neg hz]
          refine rf_G.brn rfl (fun _ => ?_) (fun z => absurd z (fun q => hz ((lg_cmp_eq0 _ _).mp q)))
          refine rf_G.step (pc' := 168) (st' := [_]) rfl rfl ?_
          exact t168 h H
