/-! the works' network: sums over its arcs, a flow from a plan -/
theorem fs_upd {g h : Nat → Int} {i : Nat} : ∀ m, i < m → (∀ j, j ≠ i → h j = g j) → fl_sum h m = fl_sum g m + (h i - g i)
  | 0, hi, _ => absurd hi (by omega)
  | m + 1, hi, e => by
    show fl_sum h m + h m = fl_sum g m + g m + (h i - g i)
    by_cases z : i = m
    · rw [fl_sum_congr m (fun j hj => e j (by omega)), z]
      omega
    · rw [fs_upd m (by omega) e, e m (by omega)]
      omega
theorem fs_part {g : Nat → Int} : ∀ d i, (∀ e, 0 ≤ g e) → fl_sum g i ≤ fl_sum g (i + d)
  | 0, _, _ => Int.le_refl _
  | d + 1, i, h => by
    have h1 := fs_part d i h
    have h2 := h (i + d)
    show _ ≤ fl_sum g (i + d) + g (i + d)
    omega
section
variable {N : Nat → Int32} {T : tv} {L : List Int32} {w : Int32}
theorem cls_sup (t : tls T N) (hQ : 2 * L.length ≤ 239) (G : Nat → Int) (hG : ∀ s p, s < T.2.1 → p < 2 * L.length → hcl T L w (240 * s + p) = 0 → G (240 * s + p) = 0) : ∀ CL, qk_a T L w L.length <+: CL → ls (fun a => if a.1 < 4 then G (cdv CL a.2.1) else 0) (pz_a T L w L.length).2.1 = fl_sum (fun p => fl_sum (fun i => if hotB N i = true then G (240 * i + p) else 0) T.2.1) (2 * L.length) := by
  have hM := t.k.1
  have run := pz_run T L w (fun p i Z c => Z.1 = 4 + c.length ∧ (∀ j x, Z.2.2 j = some x → 4 ≤ x) ∧ ∀ CL, c <+: CL → ls (fun a => if a.1 < 4 then G (cdv CL a.2.1) else 0) Z.2.1 = fl_sum (fun p => fl_sum (fun i => if hotB N i = true then G (240 * i + p) else 0) T.2.1) p + fl_sum (fun i => if hotB N i = true then G (240 * i + p) else 0) i) (fun p i Z c => Z.1 = 4 + c.length ∧ (∀ j x, Z.2.2 j = some x → 4 ≤ x) ∧ ∀ CL, c <+: CL → ls (fun a => if a.1 < 4 then G (cdv CL a.2.1) else 0) Z.2.1 = fl_sum (fun p => fl_sum (fun i => if hotB N i = true then G (240 * i + p) else 0) T.2.1) (p + 1)) ⟨rfl, fun j x h => absurd h (by intro q; cases q), fun CL _ => rfl⟩ ?_ ?_ ?_ ?_ ?_ ?_
  · intro CL hCL
    exact (run.2.2 CL hCL).trans (Int.add_zero _)
  · rintro p i Z c hp hi hh ⟨hl, h4, H⟩
    obtain ⟨b1, b2, b3⟩ := tl_bt3 t hi
    have hot : hotB N i = true := Decidable.of_not_not (fun q => hh (b2.mpr q))
    have eh : hcl T L w (240 * i + p) = (pz_h T L w i (p / 2) (p % 2)).toInt := hcl_at (by omega)
    have sx : ∀ x, x + fl_sum (fun i => if hotB N i = true then G (240 * i + p) else 0) (i + 1) = x + fl_sum (fun i => if hotB N i = true then G (240 * i + p) else 0) i + G (240 * i + p) := by
      intro x
      show x + (fl_sum (fun i => if hotB N i = true then G (240 * i + p) else 0) i + (if hotB N i = true then G (240 * i + p) else 0)) = _
      rw [if_pos hot]
      omega
    unfold pz_gv qk_gv
    by_cases z : pz_h T L w i (p / 2) (p % 2) = 0
    · rw [if_pos z, if_pos z]
      refine ⟨hl, h4, fun CL hc2 => ?_⟩
      rw [H CL hc2, sx, hG i p hi hp (by rw [eh, z]; rfl), Int.add_zero]
    · rw [if_neg z, if_neg z]
      refine ⟨by show Z.1 + 1 = 4 + (c ++ [240 * i + p]).length; rw [List.length_append]; show _ = 4 + (c.length + 1); omega, fun j x h => ?_, fun CL hc2 => ?_⟩
      · have h2 : (if j = i then some Z.1 else Z.2.2 j) = some x := h
        by_cases y : j = i
        · rw [if_pos y] at h2
          have := Option.some.inj h2
          omega
        · rw [if_neg y] at h2
          exact h4 j x h2
      · have ev : cdv CL Z.1 = 240 * i + p := by
          rw [hl]
          exact cdv_new hc2
        show ls _ (Z.2.1 ++ [(if sv_bt (T.2.2.1 i) then 2 else 0, Z.1, (pz_h T L w i (p / 2) (p % 2)).toInt64, if sv_bt (T.2.2.1 i) then sv_am (T.2.2.1 i) else 0)] ++ pz_o (Z.2.2 i) Z.1 w) = _
        rw [ls_app, ls_app, ls_1, H CL (pf_l hc2), sx]
        have e1 : (if (if sv_bt (T.2.2.1 i) then 2 else 0 : Nat) < 4 then G (cdv CL Z.1) else 0) = G (240 * i + p) := by
          rw [if_pos (by split <;> decide), ev]
        have e2 : ls (fun a => if a.1 < 4 then G (cdv CL a.2.1) else 0) (pz_o (Z.2.2 i) Z.1 w) = 0 := by
          unfold pz_o
          cases e : Z.2.2 i with
          | none => rfl
          | some x =>
            have := h4 i x e
            show ls _ [(x, Z.1, w.toInt64, 0)] = 0
            rw [ls_1]
            exact if_neg (by show ¬ x < 4; omega)
        rw [e2, Int.add_zero]
        exact congrArg (fun y => _ + y) e1
  · rintro p i Z c hp hi hh ⟨hl, h4, H⟩
    obtain ⟨b1, b2, b3⟩ := tl_bt3 t hi
    refine ⟨hl, h4, fun CL hc2 => ?_⟩
    rw [H CL hc2]
    show _ = _ + (fl_sum (fun i => if hotB N i = true then G (240 * i + p) else 0) i + (if hotB N i = true then G (240 * i + p) else 0))
    rw [if_neg (b2.mp hh), Int.add_zero]
  · rintro p Z c hp ⟨hl, h4, H⟩
    exact ⟨hl, h4, H⟩
  · rintro p i Z c hp hi hh ⟨hl, h4, H⟩
    unfold pz_tk qk_gv
    by_cases z : pz_h T L w i (p / 2) (p % 2) = 0
    · rw [if_pos z, if_pos z]
      exact ⟨hl, h4, H⟩
    · rw [if_neg z, if_neg z]
      refine ⟨by show Z.1 + 1 = 4 + (c ++ [240 * i + p]).length; rw [List.length_append]; show _ = 4 + (c.length + 1); omega, h4, fun CL hc2 => ?_⟩
      show ls _ (Z.2.1 ++ [(Z.1, if sv_bt (T.2.2.1 i) then 3 else 1, (pz_h T L w i (p / 2) (p % 2)).toInt64, if sv_bt (T.2.2.1 i) then sv_am (T.2.2.1 i) else 0)] ++ pz_x T w i Z.2.2 Z.1 T.2.1) = _
      rw [ls_app, ls_app, ls_1, H CL (pf_l hc2)]
      have e1 : (if Z.1 < 4 then G (cdv CL (if sv_bt (T.2.2.1 i) then 3 else 1)) else 0) = 0 := if_neg (by omega)
      have e2 : ls (fun a => if a.1 < 4 then G (cdv CL a.2.1) else 0) (pz_x T w i Z.2.2 Z.1 T.2.1) = 0 := by
        refine ls_0 _ (fun a ha => ?_)
        obtain ⟨j, x, h1, h2, h3, rfl⟩ := px_mem _ ha
        have := h4 j x h3
        exact if_neg (by show ¬ x < 4; omega)
      rw [e2, Int.add_zero]
      exact (congrArg (fun y => _ + y) e1).trans (Int.add_zero _)
  · exact fun p i Z c _ _ _ h => h
  · rintro p Z c hp ⟨hl, h4, H⟩
    exact ⟨hl, h4, fun CL hc2 => (H CL hc2).trans (Int.add_zero _).symm⟩
theorem cls_dem (t : tls T N) (hQ : 2 * L.length ≤ 239) (G : Nat → Int) (hG : ∀ s p, s < T.2.1 → p < 2 * L.length → hcl T L w (240 * s + p) = 0 → G (240 * s + p) = 0) : ∀ CL, qk_a T L w L.length <+: CL → ls (fun a => if a.2.1 < 4 then G (cdv CL a.1) else 0) (pz_a T L w L.length).2.1 = fl_sum (fun p => fl_sum (fun i => if hotB N i = true then 0 else G (240 * i + p)) T.2.1) (2 * L.length) := by
  have hM := t.k.1
  have run := pz_run T L w (fun p i Z c => Z.1 = 4 + c.length ∧ ∀ CL, c <+: CL → ls (fun a => if a.2.1 < 4 then G (cdv CL a.1) else 0) Z.2.1 = fl_sum (fun p => fl_sum (fun i => if hotB N i = true then 0 else G (240 * i + p)) T.2.1) p) (fun p i Z c => Z.1 = 4 + c.length ∧ ∀ CL, c <+: CL → ls (fun a => if a.2.1 < 4 then G (cdv CL a.1) else 0) Z.2.1 = fl_sum (fun p => fl_sum (fun i => if hotB N i = true then 0 else G (240 * i + p)) T.2.1) p + fl_sum (fun i => if hotB N i = true then 0 else G (240 * i + p)) i) ⟨rfl, fun CL _ => rfl⟩ ?_ ?_ ?_ ?_ ?_ ?_
  · exact run.2
  · rintro p i Z c hp hi hh ⟨hl, H⟩
    unfold pz_gv qk_gv
    by_cases z : pz_h T L w i (p / 2) (p % 2) = 0
    · rw [if_pos z, if_pos z]
      exact ⟨hl, H⟩
    · rw [if_neg z, if_neg z]
      refine ⟨by show Z.1 + 1 = 4 + (c ++ [240 * i + p]).length; rw [List.length_append]; show _ = 4 + (c.length + 1); omega, fun CL hc2 => ?_⟩
      show ls _ (Z.2.1 ++ [(if sv_bt (T.2.2.1 i) then 2 else 0, Z.1, (pz_h T L w i (p / 2) (p % 2)).toInt64, if sv_bt (T.2.2.1 i) then sv_am (T.2.2.1 i) else 0)] ++ pz_o (Z.2.2 i) Z.1 w) = _
      rw [ls_app, ls_app, ls_1, H CL (pf_l hc2)]
      have e1 : (if Z.1 < 4 then G (cdv CL (if sv_bt (T.2.2.1 i) then 2 else 0)) else 0) = 0 := if_neg (by omega)
      have e2 : ls (fun a => if a.2.1 < 4 then G (cdv CL a.1) else 0) (pz_o (Z.2.2 i) Z.1 w) = 0 := by
        unfold pz_o
        cases e : Z.2.2 i with
        | none => rfl
        | some x =>
          show ls _ [(x, Z.1, w.toInt64, 0)] = 0
          rw [ls_1]
          exact if_neg (by show ¬ Z.1 < 4; omega)
      rw [e2, Int.add_zero]
      exact (congrArg (fun y => _ + y) e1).trans (Int.add_zero _)
  · exact fun p i Z c _ _ _ h => h
  · rintro p Z c hp ⟨hl, H⟩
    exact ⟨hl, fun CL hc2 => (H CL hc2).trans (Int.add_zero _).symm⟩
  · rintro p i Z c hp hi hh ⟨hl, H⟩
    obtain ⟨b1, b2, b3⟩ := tl_bt3 t hi
    have cold := b2.mp hh
    have eh : hcl T L w (240 * i + p) = (pz_h T L w i (p / 2) (p % 2)).toInt := hcl_at (by omega)
    have sx : ∀ x, x + fl_sum (fun i => if hotB N i = true then 0 else G (240 * i + p)) (i + 1) = x + fl_sum (fun i => if hotB N i = true then 0 else G (240 * i + p)) i + G (240 * i + p) := by
      intro x
      show x + (fl_sum (fun i => if hotB N i = true then 0 else G (240 * i + p)) i + (if hotB N i = true then 0 else G (240 * i + p))) = _
      rw [if_neg cold]
      omega
    unfold pz_tk qk_gv
    by_cases z : pz_h T L w i (p / 2) (p % 2) = 0
    · rw [if_pos z, if_pos z]
      refine ⟨hl, fun CL hc2 => ?_⟩
      rw [H CL hc2, sx, hG i p hi hp (by rw [eh, z]; rfl), Int.add_zero]
    · rw [if_neg z, if_neg z]
      refine ⟨by show Z.1 + 1 = 4 + (c ++ [240 * i + p]).length; rw [List.length_append]; show _ = 4 + (c.length + 1); omega, fun CL hc2 => ?_⟩
      have ev : cdv CL Z.1 = 240 * i + p := by
        rw [hl]
        exact cdv_new hc2
      show ls _ (Z.2.1 ++ [(Z.1, if sv_bt (T.2.2.1 i) then 3 else 1, (pz_h T L w i (p / 2) (p % 2)).toInt64, if sv_bt (T.2.2.1 i) then sv_am (T.2.2.1 i) else 0)] ++ pz_x T w i Z.2.2 Z.1 T.2.1) = _
      rw [ls_app, ls_app, ls_1, H CL (pf_l hc2), sx]
      have e1 : (if (if sv_bt (T.2.2.1 i) then 3 else 1 : Nat) < 4 then G (cdv CL Z.1) else 0) = G (240 * i + p) := by
        rw [if_pos (by split <;> decide), ev]
      have e2 : ls (fun a => if a.2.1 < 4 then G (cdv CL a.1) else 0) (pz_x T w i Z.2.2 Z.1 T.2.1) = 0 := by
        refine ls_0 _ (fun a ha => ?_)
        obtain ⟨j, x, h1, h2, h3, rfl⟩ := px_mem _ ha
        exact if_neg (by show ¬ Z.1 < 4; omega)
      rw [e2, Int.add_zero]
      exact congrArg (fun y => _ + y) e1
  · rintro p i Z c hp hi hh ⟨hl, H⟩
    obtain ⟨b1, b2, b3⟩ := tl_bt3 t hi
    have hot : hotB N i = true := Decidable.of_not_not (fun q => hh (b2.mpr q))
    refine ⟨hl, fun CL hc2 => ?_⟩
    rw [H CL hc2]
    show _ = _ + (fl_sum (fun i => if hotB N i = true then 0 else G (240 * i + p)) i + (if hotB N i = true then 0 else G (240 * i + p)))
    rw [if_pos hot, Int.add_zero]
  · rintro p Z c hp ⟨hl, H⟩
    exact ⟨hl, H⟩
/-- the works' flow of a plan -/
def kb (K : Nat → Int) (c : Nat) : Int := if c % 240 = 0 then 0 else K (c - 1)
def f1 (N : Nat → Int32) (CL : List Nat) (S E K : Nat → Int) (X : Nat → Nat → Int) (a : gA) : Int := if a.1 < 4 then S (cdv CL a.2.1) else if a.2.1 < 4 then E (cdv CL a.1) else if hotB N (cdv CL a.2.1 / 240) = true then kb K (cdv CL a.2.1) else X (cdv CL a.1 / 240) (cdv CL a.2.1)
def pio (π : Nat → Int) (o : Option Nat) : Int := match o with | none => 0 | some x => π x
def kk1 (N : Nat → Int32) (S K : Nat → Int) (p i j : Nat) : Int := if hotB N j = true then kb K (240 * j + p) + (if j < i then S (240 * j + p) else 0) else 0
def kk2 (N : Nat → Int32) (S K : Nat → Int) (X : Nat → Nat → Int) (p i j : Nat) : Int := if hotB N j = true then kb K (240 * j + p) + S (240 * j + p) - fl_sum (fun i => if hotB N i = true then 0 else X j (240 * i + p)) i else 0
theorem cls_cv (t : tls T N) (hQ : 2 * L.length ≤ 239) {S E K : Nat → Int} {X : Nat → Nat → Int} (P : pn (hotB N) (gr_may N) T.2.1 (2 * L.length) S E K X) (h0 : ∀ s p, s < T.2.1 → p < 2 * L.length → hcl T L w (240 * s + p) = 0 → S (240 * s + p) = 0 ∧ E (240 * s + p) = 0) {π : Nat → Int} (pz0 : ∀ v, v < 4 → π v = 0) : ∀ CL, qk_a T L w L.length <+: CL → ls (fun a => f1 N CL S E K X a * (π a.2.1 - π a.1)) (pz_a T L w L.length).2.1 = 0 := by
  have hM := t.k.1
  obtain ⟨P1, P2, P3, P4, P5, P6, P7⟩ := P
  have kbe : ∀ j p, p < 2 * L.length → kb K (240 * j + p) = if p = 0 then 0 else K (240 * j + (p - 1)) := by
    intro j p hp
    unfold kb
    rw [show (240 * j + p) % 240 = p by omega]
    by_cases z : p = 0
    · rw [if_pos z, if_pos z]
    · rw [if_neg z, if_neg z, show 240 * j + p - 1 = 240 * j + (p - 1) by omega]
  have run := pz_run T L w (fun p i Z c => Z.1 = 4 + c.length ∧ ∀ CL, c <+: CL → (∀ j x, Z.2.2 j = some x → (4 ≤ x ∧ x < Z.1) ∧ cdv CL x / 240 = j) ∧ ls (fun a => f1 N CL S E K X a * (π a.2.1 - π a.1)) Z.2.1 = fl_sum (fun j => kk1 N S K p i j * pio π (Z.2.2 j)) T.2.1 ∧ ∀ j, j < T.2.1 → Z.2.2 j = none → kk1 N S K p i j = 0) (fun p i Z c => Z.1 = 4 + c.length ∧ ∀ CL, c <+: CL → (∀ j x, Z.2.2 j = some x → (4 ≤ x ∧ x < Z.1) ∧ cdv CL x / 240 = j) ∧ ls (fun a => f1 N CL S E K X a * (π a.2.1 - π a.1)) Z.2.1 = fl_sum (fun j => kk2 N S K X p i j * pio π (Z.2.2 j)) T.2.1 ∧ ∀ j, j < T.2.1 → Z.2.2 j = none → kk2 N S K X p i j = 0) ⟨rfl, fun CL _ => ⟨fun j x h => absurd h (by intro q; cases q), ?_, fun j _ _ => ?_⟩⟩ ?_ ?_ ?_ ?_ ?_ ?_
  · intro CL hCL
    rw [(run.2 CL hCL).2.1]
    refine fs_0 _ (fun j hj => ?_)
    have e : kk1 N S K (2 * L.length) 0 j = 0 := by
      unfold kk1
      by_cases z : hotB N j = true
      · rw [if_pos z, if_neg (by omega), Int.add_zero]
        unfold kb
        rw [show (240 * j + 2 * L.length) % 240 = 2 * L.length by omega]
        by_cases y : 2 * L.length = 0
        · rw [if_pos y]
        · rw [if_neg y, show 240 * j + 2 * L.length - 1 = 240 * j + (2 * L.length - 1) by omega]
          exact P5 j hj z (by omega)
      · rw [if_neg z]
    rw [e, Int.zero_mul]
  · symm
    exact fs_0 _ (fun j _ => Int.mul_zero _)
  · unfold kk1
    split
    · rw [if_neg (by omega), Int.add_zero]
      unfold kb
      rw [if_pos (by omega)]
    · rfl
  · rintro p i Z c hp hi hh ⟨hl, H⟩
    obtain ⟨b1, b2, b3⟩ := tl_bt3 t hi
    have hot : hotB N i = true := Decidable.of_not_not (fun q => hh (b2.mpr q))
    have eh : hcl T L w (240 * i + p) = (pz_h T L w i (p / 2) (p % 2)).toInt := hcl_at (by omega)
    have ke : ∀ j, j ≠ i → kk1 N S K p (i + 1) j = kk1 N S K p i j := by
      intro j hj
      unfold kk1
      by_cases y : j < i
      · rw [if_pos y, if_pos (show j < i + 1 by omega)]
      · rw [if_neg y, if_neg (show ¬ j < i + 1 by omega)]
    have k0 : kk1 N S K p i i = kb K (240 * i + p) := by
      unfold kk1
      rw [if_pos hot, if_neg (by omega), Int.add_zero]
    have k1 : kk1 N S K p (i + 1) i = kb K (240 * i + p) + S (240 * i + p) := by
      unfold kk1
      rw [if_pos hot, if_pos (by omega)]
    unfold pz_gv qk_gv
    by_cases z : pz_h T L w i (p / 2) (p % 2) = 0
    · rw [if_pos z, if_pos z]
      have s0 := (h0 i p hi hp (by rw [eh, z]; rfl)).1
      have ke2 : ∀ j, kk1 N S K p (i + 1) j = kk1 N S K p i j := by
        intro j
        by_cases y : j = i
        · rw [y, k0, k1, s0, Int.add_zero]
        · exact ke j y
      refine ⟨hl, fun CL hc2 => ?_⟩
      obtain ⟨H1, H2, H3⟩ := H CL hc2
      refine ⟨H1, ?_, fun j hj e => by rw [ke2]; exact H3 j hj e⟩
      rw [H2]
      exact fl_sum_congr _ (fun j _ => by rw [ke2])
    · rw [if_neg z, if_neg z]
      refine ⟨by show Z.1 + 1 = 4 + (c ++ [240 * i + p]).length; rw [List.length_append]; show _ = 4 + (c.length + 1); omega, fun CL hc2 => ?_⟩
      obtain ⟨H1, H2, H3⟩ := H CL (pf_l hc2)
      have ev : cdv CL Z.1 = 240 * i + p := by
        rw [hl]
        exact cdv_new hc2
      refine ⟨fun j x h => ?_, ?_, fun j hj h => ?_⟩
      · have h2 : (if j = i then some Z.1 else Z.2.2 j) = some x := h
        by_cases y : j = i
        · rw [if_pos y] at h2
          have ex : x = Z.1 := (Option.some.inj h2).symm
          rw [ex, ev, y]
          exact ⟨⟨by omega, by show Z.1 < Z.1 + 1; omega⟩, by omega⟩
        · rw [if_neg y] at h2
          obtain ⟨q1, q2⟩ := H1 j x h2
          exact ⟨⟨q1.1, by show x < Z.1 + 1; omega⟩, q2⟩
      · show ls (fun a => f1 N CL S E K X a * (π a.2.1 - π a.1)) (Z.2.1 ++ [(if sv_bt (T.2.2.1 i) then 2 else 0, Z.1, (pz_h T L w i (p / 2) (p % 2)).toInt64, if sv_bt (T.2.2.1 i) then sv_am (T.2.2.1 i) else 0)] ++ pz_o (Z.2.2 i) Z.1 w) = fl_sum (fun j => kk1 N S K p (i + 1) j * pio π (if j = i then some Z.1 else Z.2.2 j)) T.2.1
        rw [ls_app, ls_app, ls_1, H2]
        have e1 : f1 N CL S E K X (if sv_bt (T.2.2.1 i) then 2 else 0, Z.1, (pz_h T L w i (p / 2) (p % 2)).toInt64, if sv_bt (T.2.2.1 i) then sv_am (T.2.2.1 i) else 0) = S (240 * i + p) := by
          unfold f1
          rw [if_pos (by show (if sv_bt (T.2.2.1 i) then 2 else 0 : Nat) < 4; split <;> decide)]
          show S (cdv CL Z.1) = _
          rw [ev]
        have e0 : π (if sv_bt (T.2.2.1 i) then 2 else 0) = 0 := pz0 _ (by split <;> decide)
        have up := fs_upd (g := fun j => kk1 N S K p i j * pio π (Z.2.2 j)) (h := fun j => kk1 N S K p (i + 1) j * pio π (if j = i then some Z.1 else Z.2.2 j)) T.2.1 hi (fun j hj => by
          show kk1 N S K p (i + 1) j * pio π (if j = i then some Z.1 else Z.2.2 j) = kk1 N S K p i j * pio π (Z.2.2 j)
          rw [ke j hj, if_neg hj])
        rw [up]
        show _ + f1 N CL S E K X _ * (π Z.1 - π (if sv_bt (T.2.2.1 i) then 2 else 0)) + _ = _ + (kk1 N S K p (i + 1) i * pio π (if i = i then some Z.1 else Z.2.2 i) - kk1 N S K p i i * pio π (Z.2.2 i))
        rw [e1, e0, if_pos rfl, k0, k1, Int.sub_zero]
        show _ = _ + ((kb K (240 * i + p) + S (240 * i + p)) * π Z.1 - kb K (240 * i + p) * pio π (Z.2.2 i))
        cases e : Z.2.2 i with
        | none =>
          have kz := H3 i hi e
          rw [k0] at kz
          rw [kz]
          show _ + _ + (0 : Int) = _ + ((0 + _) * _ - 0 * _)
          rw [Int.zero_add, Int.zero_mul, Int.sub_zero, Int.add_zero]
        | some x =>
          obtain ⟨q1, q2⟩ := H1 i x e
          have e2 : f1 N CL S E K X (x, Z.1, w.toInt64, 0) = kb K (240 * i + p) := by
            unfold f1
            rw [if_neg (show ¬ x < 4 by omega), if_neg (show ¬ Z.1 < 4 by omega)]
            show (if hotB N (cdv CL Z.1 / 240) = true then kb K (cdv CL Z.1) else _) = _
            rw [ev, show (240 * i + p) / 240 = i by omega, if_pos hot]
          show _ + _ + ls _ [(x, Z.1, w.toInt64, 0)] = _ + (_ - kb K (240 * i + p) * π x)
          rw [ls_1]
          show _ + _ + f1 N CL S E K X (x, Z.1, w.toInt64, 0) * (π Z.1 - π x) = _
          rw [e2]
          grind
      · have h2 : (if j = i then some Z.1 else Z.2.2 j) = none := h
        by_cases y : j = i
        · rw [if_pos y] at h2
          exact absurd h2 (by intro q; cases q)
        · rw [if_neg y] at h2
          rw [ke j y]
          exact H3 j hj h2
  · rintro p i Z c hp hi hh ⟨hl, H⟩
    obtain ⟨b1, b2, b3⟩ := tl_bt3 t hi
    have cold := b2.mp hh
    have ke : ∀ j, kk1 N S K p (i + 1) j = kk1 N S K p i j := by
      intro j
      unfold kk1
      by_cases y : hotB N j = true
      · rw [if_pos y, if_pos y]
        have ne : ¬ j = i := fun q => cold (by rw [← q]; exact y)
        by_cases x : j < i
        · rw [if_pos x, if_pos (show j < i + 1 by omega)]
        · rw [if_neg x, if_neg (show ¬ j < i + 1 by omega)]
      · rw [if_neg y, if_neg y]
    refine ⟨hl, fun CL hc2 => ?_⟩
    obtain ⟨H1, H2, H3⟩ := H CL hc2
    refine ⟨H1, ?_, fun j hj e => by rw [ke]; exact H3 j hj e⟩
    rw [H2]
    exact fl_sum_congr _ (fun j _ => by rw [ke])
  · rintro p Z c hp ⟨hl, H⟩
    have ke : ∀ j, j < T.2.1 → kk2 N S K X p 0 j = kk1 N S K p T.2.1 j := by
      intro j hj
      unfold kk1 kk2
      by_cases y : hotB N j = true
      · rw [if_pos y, if_pos y, if_pos hj]
        show _ - 0 = _
        rw [Int.sub_zero]
      · rw [if_neg y, if_neg y]
    refine ⟨hl, fun CL hc2 => ?_⟩
    obtain ⟨H1, H2, H3⟩ := H CL hc2
    refine ⟨H1, ?_, fun j hj e => by rw [ke j hj]; exact H3 j hj e⟩
    rw [H2]
    exact fl_sum_congr _ (fun j hj => by rw [ke j hj])
  · rintro p i Z c hp hi hh ⟨hl, H⟩
    obtain ⟨b1, b2, b3⟩ := tl_bt3 t hi
    have cold := b2.mp hh
    have eh : hcl T L w (240 * i + p) = (pz_h T L w i (p / 2) (p % 2)).toInt := hcl_at (by omega)
    have sm := P3 i p hi hp cold
    have kn : ∀ j, j < T.2.1 → kk2 N S K X p (i + 1) j = kk2 N S K X p i j - X j (240 * i + p) := by
      intro j hj
      unfold kk2
      by_cases y : hotB N j = true
      · rw [if_pos y, if_pos y]
        show _ - (fl_sum (fun i => if hotB N i = true then 0 else X j (240 * i + p)) i + (if hotB N i = true then 0 else X j (240 * i + p))) = _
        rw [if_neg cold]
        omega
      · rw [if_neg y, if_neg y, P6 j i p hi hp cold (fun q => y q.1)]
        rfl
    unfold pz_tk qk_gv
    by_cases z : pz_h T L w i (p / 2) (p % 2) = 0
    · rw [if_pos z, if_pos z]
      rw [(h0 i p hi hp (by rw [eh, z]; rfl)).2] at sm
      have xz := fs_eq0 _ (fun e _ => P2 e (240 * i + p)) sm
      have ke : ∀ j, j < T.2.1 → kk2 N S K X p (i + 1) j = kk2 N S K X p i j := by
        intro j hj
        rw [kn j hj, xz j hj, Int.sub_zero]
      refine ⟨hl, fun CL hc2 => ?_⟩
      obtain ⟨H1, H2, H3⟩ := H CL hc2
      refine ⟨H1, ?_, fun j hj e => by rw [ke j hj]; exact H3 j hj e⟩
      rw [H2]
      exact fl_sum_congr _ (fun j hj => by rw [ke j hj])
    · rw [if_neg z, if_neg z]
      refine ⟨by show Z.1 + 1 = 4 + (c ++ [240 * i + p]).length; rw [List.length_append]; show _ = 4 + (c.length + 1); omega, fun CL hc2 => ?_⟩
      obtain ⟨H1, H2, H3⟩ := H CL (pf_l hc2)
      have ev : cdv CL Z.1 = 240 * i + p := by
        rw [hl]
        exact cdv_new hc2
      have xn : ∀ j, j < T.2.1 → Z.2.2 j = none → X j (240 * i + p) = 0 := by
        intro j hj e
        by_cases y : hotB N j = true
        · have k0 := H3 j hj e
          have kp := P4 j p hj hp y
          have kpos := (P1 (240 * j + p)).2.2
          have part := fs_part (g := fun i => if hotB N i = true then 0 else X j (240 * i + p)) (T.2.1 - (i + 1)) (i + 1) (fun e => by split; exact Int.le_refl _; exact P2 _ _)
          rw [show i + 1 + (T.2.1 - (i + 1)) = T.2.1 by omega] at part
          have part2 : fl_sum (fun i => if hotB N i = true then 0 else X j (240 * i + p)) (i + 1) = fl_sum (fun i => if hotB N i = true then 0 else X j (240 * i + p)) i + X j (240 * i + p) := by
            show fl_sum (fun i => if hotB N i = true then 0 else X j (240 * i + p)) i + (if hotB N i = true then 0 else X j (240 * i + p)) = _
            rw [if_neg cold]
          unfold kk2 at k0
          rw [if_pos y, kbe j p hp] at k0
          have xp := P2 j (240 * i + p)
          omega
        · exact P6 j i p hi hp cold (fun q => y q.1)
      refine ⟨fun j x h => ?_, ?_, fun j hj h => ?_⟩
      · obtain ⟨q1, q2⟩ := H1 j x h
        exact ⟨⟨q1.1, by show x < Z.1 + 1; omega⟩, q2⟩
      · show ls (fun a => f1 N CL S E K X a * (π a.2.1 - π a.1)) (Z.2.1 ++ [(Z.1, if sv_bt (T.2.2.1 i) then 3 else 1, (pz_h T L w i (p / 2) (p % 2)).toInt64, if sv_bt (T.2.2.1 i) then sv_am (T.2.2.1 i) else 0)] ++ pz_x T w i Z.2.2 Z.1 T.2.1) = fl_sum (fun j => kk2 N S K X p (i + 1) j * pio π (Z.2.2 j)) T.2.1
        rw [ls_app, ls_app, ls_1, H2, ls_px]
        have e1 : f1 N CL S E K X (Z.1, if sv_bt (T.2.2.1 i) then 3 else 1, (pz_h T L w i (p / 2) (p % 2)).toInt64, if sv_bt (T.2.2.1 i) then sv_am (T.2.2.1 i) else 0) = E (240 * i + p) := by
          unfold f1
          rw [if_neg (show ¬ Z.1 < 4 by omega), if_pos (by show (if sv_bt (T.2.2.1 i) then 3 else 1 : Nat) < 4; split <;> decide)]
          show E (cdv CL Z.1) = _
          rw [ev]
        have e0 : π (if sv_bt (T.2.2.1 i) then 3 else 1) = 0 := pz0 _ (by split <;> decide)
        have e2 : fl_sum (fun j => if pz_may T j i then ls (fun a => f1 N CL S E K X a * (π a.2.1 - π a.1)) (pz_o (Z.2.2 j) Z.1 w) else 0) T.2.1 = fl_sum (fun j => X j (240 * i + p) * π Z.1 - X j (240 * i + p) * pio π (Z.2.2 j)) T.2.1 := by
          refine fl_sum_congr _ (fun j hj => ?_)
          by_cases y : pz_may T j i
          · rw [if_pos y]
            cases e : Z.2.2 j with
            | none =>
              rw [xn j hj e]
              show (0 : Int) = 0 * _ - 0 * _
              rw [Int.zero_mul, Int.zero_mul]
              rfl
            | some x =>
              obtain ⟨q1, q2⟩ := H1 j x e
              have e3 : f1 N CL S E K X (x, Z.1, w.toInt64, 0) = X j (240 * i + p) := by
                unfold f1
                rw [if_neg (show ¬ x < 4 by omega), if_neg (show ¬ Z.1 < 4 by omega)]
                show (if hotB N (cdv CL Z.1 / 240) = true then kb K (cdv CL Z.1) else X (cdv CL x / 240) (cdv CL Z.1)) = _
                rw [ev, show (240 * i + p) / 240 = i by omega, if_neg cold, q2]
              show ls _ [(x, Z.1, w.toInt64, 0)] = X j (240 * i + p) * π Z.1 - X j (240 * i + p) * π x
              rw [ls_1]
              show f1 N CL S E K X (x, Z.1, w.toInt64, 0) * (π Z.1 - π x) = _
              rw [e3, Int.mul_sub]
          · rw [if_neg y, P6 j i p hi hp cold (fun q => y ((tl_may t hi hj cold).mpr q)), Int.zero_mul, Int.zero_mul]
            rfl
        rw [e2, fl_sum_sub]
        have e3 : fl_sum (fun a => X a (240 * i + p) * π Z.1) T.2.1 = E (240 * i + p) * π Z.1 := by
          rw [← sm, Int.mul_comm, ← fl_sum_mul]
          exact fl_sum_congr _ (fun a _ => Int.mul_comm _ _)
        have e4 : fl_sum (fun j => kk2 N S K X p (i + 1) j * pio π (Z.2.2 j)) T.2.1 = fl_sum (fun j => kk2 N S K X p i j * pio π (Z.2.2 j)) T.2.1 - fl_sum (fun j => X j (240 * i + p) * pio π (Z.2.2 j)) T.2.1 := by
          rw [← fl_sum_sub]
          refine fl_sum_congr _ (fun j hj => ?_)
          rw [kn j hj, Int.sub_mul]
        rw [e3, e4]
        show _ + f1 N CL S E K X _ * (π (if sv_bt (T.2.2.1 i) then 3 else 1) - π Z.1) + _ = _
        rw [e1, e0, Int.zero_sub, Int.mul_neg]
        omega
      · rw [kn j hj, H3 j hj h, xn j hj h]
        rfl
  · rintro p i Z c hp hi hh ⟨hl, H⟩
    obtain ⟨b1, b2, b3⟩ := tl_bt3 t hi
    have hot : hotB N i = true := Decidable.of_not_not (fun q => hh (b2.mpr q))
    have ke : ∀ j, kk2 N S K X p (i + 1) j = kk2 N S K X p i j := by
      intro j
      unfold kk2
      by_cases y : hotB N j = true
      · rw [if_pos y, if_pos y]
        show _ - (fl_sum (fun i => if hotB N i = true then 0 else X j (240 * i + p)) i + (if hotB N i = true then 0 else X j (240 * i + p))) = _
        rw [if_pos hot, Int.add_zero]
      · rw [if_neg y, if_neg y]
    refine ⟨hl, fun CL hc2 => ?_⟩
    obtain ⟨H1, H2, H3⟩ := H CL hc2
    refine ⟨H1, ?_, fun j hj e => by rw [ke]; exact H3 j hj e⟩
    rw [H2]
    exact fl_sum_congr _ (fun j _ => by rw [ke])
  · rintro p Z c hp ⟨hl, H⟩
    have ke : ∀ j, j < T.2.1 → kk1 N S K (p + 1) 0 j = kk2 N S K X p T.2.1 j := by
      intro j hj
      unfold kk1 kk2
      by_cases y : hotB N j = true
      · rw [if_pos y, if_pos y, if_neg (by omega), Int.add_zero, kbe j p hp, ← P4 j p hj hp y]
        unfold kb
        rw [if_neg (by omega), show 240 * j + (p + 1) - 1 = 240 * j + p by omega]
      · rw [if_neg y, if_neg y]
    refine ⟨hl, fun CL hc2 => ?_⟩
    obtain ⟨H1, H2, H3⟩ := H CL hc2
    refine ⟨H1, ?_, fun j hj e => by rw [ke j hj]; exact H3 j hj e⟩
    rw [H2]
    exact fl_sum_congr _ (fun j hj => by rw [ke j hj])
end
