/-! the reference: graph -/
def gr_ly (R : rf_R) : Nat → rf_R × Nat
  | 0 => (rf_sI R 10 0, 0)
  | s + 1 => ((rf_lv (gr_ly R s).1 (gr_ly R s).2 s (rf_sp (R.1 0) s)).1, (rf_lv (gr_ly R s).1 (gr_ly R s).2 s (rf_sp (R.1 0) s)).2)
theorem gr_ly_ok (R : rf_R) : ∀ s, (∀ t, t < s → rf_sp (R.1 0) t ≤ 8) → rf_kp R (gr_ly R s).1 ∧ (gr_ly R s).1.2.2.1 10 = nI (gr_ly R s).2 ∧ (gr_ly R s).2 ≤ 9 * s
  | 0, _ => ⟨⟨fun _ _ => rfl, rfl, fun k h => by simp [gr_ly, rf_sI, h], rfl⟩, rfl, Nat.le_refl 0⟩
  | s + 1, hs => by
    obtain ⟨h1, h2, h3⟩ := gr_ly_ok R s (fun t ht => hs t (by omega))
    have h4 := hs s (by omega)
    obtain ⟨-, g2, g3⟩ := rf_lv_ok (gr_ly R s).1 (gr_ly R s).2 s h2 (rf_sp (R.1 0) s)
    exact ⟨h1.tr (rf_lv_kp _ _ _ _), g2, by show (rf_lv _ _ _ _).2 ≤ _; omega⟩
/-- all levels, of bought ones too -/
def gr_lv (N : Nat → Int32) : Nat → List Int32
  | 0 => []
  | s + 1 => lv_all (gr_lv N s) (lv_s N s (rf_sp N s + 1))
theorem gr_ly_lv (R : rf_R) : ∀ s, (∀ t, t < s → rf_sp (R.1 0) t ≤ 8) → lv_of ((gr_ly R s).1.1 9) (gr_ly R s).2 = gr_lv (R.1 0) s
  | 0, _ => rfl
  | s + 1, hs => by
    have ih := gr_ly_lv R s (fun t ht => hs t (by omega))
    have k := (gr_ly_ok R s (fun t ht => hs t (by omega))).1
    unfold gr_ly gr_lv
    refine (lv_lv _ _ _ _).trans ?_
    rw [ih, k.1 0 (by decide)]
def gr_A (N : Nat → Int32) (M : Nat) : List gA := gr_g N (gr_lv N M) M M
theorem rc_graph (r : Nat) {R : rf_R} {M : Nat} (P : rf_Pre R M 0) : ∃ R2, rf_C 195 r [.ref r] R none R2 ∧ rf_J R R2 ∧ rf_HG R2 (hv (gr_A (R.1 0) M)) (hv_r (gr_A (R.1 0) M)) := by
  have hM := P.hM
  have okM := gr_ly_ok R M (fun t ht => (P.ok t ht).1)
  have eL := gr_ly_lv R M (fun t ht => (P.ok t ht).1)
  have lL : (gr_lv (R.1 0) M).length = (gr_ly R M).2 := by
    rw [← eL]
    unfold lv_of
    rw [List.length_map, List.length_range']
  have gL : ∀ k, k < (gr_lv (R.1 0) M).length → (gr_ly R M).1.1 9 k = (gr_lv (R.1 0) M).getD k 0 := by
    intro k hk
    rw [lL] at hk
    rw [← eL]
    unfold lv_of
    rw [List.getD_eq_getElem?_getD, List.getElem?_map, List.getElem?_range' hk]
    simp
  have len := gr_len (R.1 0) (gr_lv (R.1 0) M) hM (by omega)
  unfold gr_A
  generalize gr_lv (R.1 0) M = L at *
  -- the rows
  have main : ∀ R0, rf_kp R (gr_ly R M).1 → gr_env R0 L M → R0.1 0 = R.1 0 → ∀ d s R1 u3 u4 u5 u6 u7 u8 u9, s + d = M → rf_kG R0 R1 → rf_HG R1 (hv (gr_g (R.1 0) L M s)) (hv_r (gr_g (R.1 0) L M s)) → rf_GX r (fun R2 => rf_kG R0 R2 ∧ rf_HG R2 (hv (gr_g (R.1 0) L M M)) (hv_r (gr_g (R.1 0) L M M))) 64 [.ref r, .int (nI (2 * L.length)), .int (nI s), u3, u4, u5, u6, u7, u8, u9] R1 := by
    intro R0 _ env eN d
    induction d with
    | zero =>
      intro s R1 u3 u4 u5 u6 u7 u8 u9 hs k g
      obtain rfl : s = M := by omega
      refine ⟨R1, ⟨k, g⟩, fun h H => ?_⟩
      have eM : R1.1 0 (Int32.toNatClampNeg 0) = nI s := (env.k k).1.eM
      refine rf_G.step (pc' := 65) (st' := [_]) rfl rfl ?_
      refine rf_G.step (pc' := 66) (st' := [_, _]) rfl rfl ?_
      refine rf_G.get H rfl rfl ?_
      refine rf_G.step (pc' := 70) (st' := [_, _, _]) rfl rfl ?_
      refine rf_G.iald H 0 1 822 (by decide) rfl (rf_ix (n := 0) (by decide) (by decide)) ?_
      rw [eM]
      refine rf_G.bc rfl (jx_br_ge _ _) (fun _ => ?_) (fun zq => absurd (Int32.le_refl _) zq)
      exact rf_G.ret H rfl rfl
    | succ d ih =>
      intro s R1 u3 u4 u5 u6 u7 u8 u9 hs k g
      have eM : R1.1 0 (Int32.toNatClampNeg 0) = nI M := (env.k k).1.eM
      have eN1 : R1.1 0 = R.1 0 := (k.1 0 (by decide)).trans eN
      have c1 := rc_of r R1 s 1 (by omega) (by decide)
      have c0 := rc_of r R1 s 0 (by omega) (by decide)
      rw [eN1] at c0 c1
      rw [Nat.add_zero] at c0
      have hx := gr_g_mono (R.1 0) L M (s + 1) d
      rw [show s + 1 + d = M by omega, gr_g, List.length_append] at hx
      have lp := gr_ploop r R0 L M s env (by omega) (gr_g (R.1 0) L M s) (by rw [eN]; omega) (fun R2 => rf_kG R0 R2 ∧ rf_HG R2 (hv (gr_g (R.1 0) L M M)) (hv_r (gr_g (R.1 0) L M M))) _ _ rfl rfl (fun R2 u6 u7 u8 u9 k2 g2 => by
        rw [eN] at g2
        obtain ⟨R3, f, gg⟩ := ih (s + 1) R2 (.int (if R0.1 0 (2 + 24 * s + 1) = 1 then 1 else 0)) (.int (if 3 ≤ R0.1 0 (2 + 24 * s) then 1 else 0)) (.int (nI (2 * L.length))) u6 u7 u8 u9 (by omega) k2 g2
        refine ⟨R3, f, fun h H => ?_⟩
        refine rf_G.step (pc' := 336) (ls' := [_, _, _, _, _, _, _, _, _, _]) (st' := []) rfl rfl ?_
        refine rf_G.step (pc' := 64) (st' := []) rfl rfl ?_
        rw [nI_1]
        exact gg h H) (2 * L.length) 0 R1 u6 u7 u8 u9 (by omega) k (by rw [gr_s, List.append_nil]; exact g)
      rw [eN] at lp
      obtain ⟨R3, f, gg⟩ := lp
      refine ⟨R3, f, fun h H => ?_⟩
      have t105 : ∀ (hot bo : Int32), hot = (if R.1 0 (2 + 24 * s + 1) = 1 then 1 else 0) → bo = (if 3 ≤ R.1 0 (2 + 24 * s) then 1 else 0) → ∀ h, rf_At r R1 h → rf_G r 195 105 [.ref r, .int (nI (2 * L.length)), .int (nI s), .int hot, u4, u5, u6, u7, u8, u9] [.int bo] h none R3 := by
        intro hot bo e1 e2 h H
        rw [← e1, ← e2] at gg
        refine rf_G.step (pc' := 107) (ls' := [_, _, _, _, _, _, _, _, _, _]) (st' := []) rfl rfl ?_
        refine rf_G.step (pc' := 108) (st' := [_]) rfl rfl ?_
        refine rf_G.step (pc' := 110) (ls' := [_, _, _, _, _, _, _, _, _, _]) (st' := []) rfl rfl ?_
        exact gg h H
      have t89 : ∀ (hot : Int32), hot = (if R.1 0 (2 + 24 * s + 1) = 1 then 1 else 0) → ∀ h, rf_At r R1 h → rf_G r 195 89 [.ref r, .int (nI (2 * L.length)), .int (nI s), u3, u4, u5, u6, u7, u8, u9] [.int hot] h none R3 := by
        intro hot e1 h H
        refine rf_G.step (pc' := 90) (ls' := [_, _, _, _, _, _, _, _, _, _]) (st' := []) rfl rfl ?_
        refine rf_G.step (pc' := 91) (st' := [_]) rfl rfl ?_
        refine rf_G.step (pc' := 92) (st' := [_, _]) rfl rfl ?_
        refine rf_G.step (pc' := 93) (st' := [_, _, _]) rfl rfl ?_
        refine rf_G.v2I H rfl (by decide) rfl ⟨Nat.le_of_ble_eq_true rfl, rfl⟩ (Nat.le_of_ble_eq_true rfl) (c0) (fun h H => ?_)
        refine rf_G.step (pc' := 97) (st' := [_, _]) rfl rfl ?_
        by_cases z : 3 ≤ R.1 0 (2 + 24 * s)
        · refine rf_G.bc rfl (jx_br_lt _ _) (fun zq => absurd zq (Int32.not_lt.mpr z)) (fun _ => ?_)
          refine rf_G.step (pc' := 101) (st' := [_]) rfl rfl ?_
          refine rf_G.step (pc' := 105) (st' := [_]) rfl rfl ?_
          exact t105 hot 1 e1 (if_pos z).symm h H
        · refine rf_G.bc rfl (jx_br_lt _ _) (fun _ => ?_) (fun zq => absurd (Int32.not_le.mp z) zq)
          refine rf_G.step (pc' := 105) (st' := [_]) rfl rfl ?_
          exact t105 hot 0 e1 (if_neg z).symm h H
      refine rf_G.step (pc' := 65) (st' := [_]) rfl rfl ?_
      refine rf_G.step (pc' := 66) (st' := [_, _]) rfl rfl ?_
      refine rf_G.get H rfl rfl ?_
      refine rf_G.step (pc' := 70) (st' := [_, _, _]) rfl rfl ?_
      refine rf_G.iald H 0 1 822 (by decide) rfl (rf_ix (n := 0) (by decide) (by decide)) ?_
      rw [eM]
      refine rf_G.bc rfl (jx_br_ge _ _) (fun zq => absurd zq (nI_ge (by omega) (by omega))) (fun _ => ?_)
      refine rf_G.step (pc' := 75) (st' := [_]) rfl rfl ?_
      refine rf_G.step (pc' := 76) (st' := [_, _]) rfl rfl ?_
      refine rf_G.step (pc' := 77) (st' := [_, _, _]) rfl rfl ?_
      refine rf_G.v2I H rfl (by decide) rfl ⟨Nat.le_of_ble_eq_true rfl, rfl⟩ (Nat.le_of_ble_eq_true rfl) (c1) (fun h H => ?_)
      refine rf_G.step (pc' := 81) (st' := [_, _]) rfl rfl ?_
      by_cases z : R.1 0 (2 + 24 * s + 1) = 1
      · refine rf_G.bcn rfl (fun zq => absurd (z) zq) (fun _ => ?_)
        refine rf_G.step (pc' := 85) (st' := [_]) rfl rfl ?_
        refine rf_G.step (pc' := 89) (st' := [_]) rfl rfl ?_
        exact t89 1 (if_pos z).symm h H
      · refine rf_G.bcn rfl (fun _ => ?_) (fun zq => absurd zq (z))
        refine rf_G.step (pc' := 89) (st' := [_]) rfl rfl ?_
        exact t89 0 (if_neg z).symm h H
  -- no arcs yet
  have clear : ∀ d k f, k + d = 2882 → (∀ j, j < k → f j = -1) → rf_GX r (fun R2 => rf_J R R2 ∧ rf_HG R2 (hv (gr_g (R.1 0) L M M)) (hv_r (gr_g (R.1 0) L M M))) 35 [.ref r, .int (nI k), .retAddr 0, .retAddr 0, .retAddr 0, .retAddr 0, .retAddr 0, .retAddr 0, .retAddr 0, .retAddr 0] (rf_sA (rf_sI (gr_ly R M).1 29 0) 34 f) := by
    intro d
    induction d with
    | zero =>
      intro k f hk hf
      have k0 := okM.1
      have env : gr_env (rf_sA (rf_sI (gr_ly R M).1 29 0) 34 f) L M := by
        refine ⟨⟨hM, P.hE, ?_, ?_, ?_⟩, ?_, by omega, gL⟩
        · show (gr_ly R M).1.1 0 0 = nI M
          rw [k0.1 0 (by decide)]
          exact P.eM
        · show (gr_ly R M).1.2.2.1 6 = nI 0
          rw [k0.2.2.1 6 (by decide)]
          exact P.eE
        · show rf_ok ((gr_ly R M).1.1 0) M
          rw [k0.1 0 (by decide)]
          exact P.ok
        · show (gr_ly R M).1.2.2.1 10 = nI L.length
          rw [okM.2.1, lL]
      have eN : (rf_sA (rf_sI (gr_ly R M).1 29 0) 34 f).1 0 = R.1 0 := k0.1 0 (by decide)
      obtain ⟨R2, ⟨f1, f2⟩, gg⟩ := main _ k0 env eN M 0 (rf_sA (rf_sI (gr_ly R M).1 29 0) 34 f) (.retAddr 0) (.retAddr 0) (.retAddr 0) (.retAddr 0) (.retAddr 0) (.retAddr 0) (.retAddr 0) (by omega) rf_kG.rf ⟨rfl, fun i hi => absurd hi (by simp [gr_g, hv]), fun a ha => hf a (by omega)⟩
      have J0 : rf_J R (rf_sA (rf_sI (gr_ly R M).1 29 0) 34 f) := ⟨eN, k0.1 1 (by decide), fun k hk => by
        show (if k = 29 then 0 else (gr_ly R M).1.2.2.1 k) = _
        rw [if_neg (by omega), k0.2.2.1 k (by omega)], fun k _ => by
        show (gr_ly R M).1.2.2.2 k = _
        rw [k0.2.2.2], by
        show (gr_ly R M).1.1 28 0 = _
        rw [k0.1 28 (by decide)]⟩
      refine ⟨R2, ⟨J0.tr f1.J, f2⟩, fun h H => ?_⟩
      obtain rfl : k = 2882 := by omega
      have e10 : (rf_sA (rf_sI (gr_ly R M).1 29 0) 34 f).2.2.1 10 = nI L.length := env.2.1
      refine rf_G.step (pc' := 36) (st' := [_]) rfl rfl ?_
      refine rf_G.step (pc' := 39) (st' := [_, _]) rfl rfl ?_
      refine rf_G.bc rfl (jx_br_ge _ _) (fun _ => ?_) (fun zq => absurd (Int32.le_refl _) zq)
      refine rf_G.step (pc' := 56) (st' := [_]) rfl rfl ?_
      refine rf_G.step (pc' := 57) (st' := [_, _]) rfl rfl ?_
      refine rf_G.get H rfl rfl ?_
      rw [e10]
      refine rf_G.step (pc' := 61) (st' := [_]) rfl rfl ?_
      rw [rf_lit 2, pk_mul]
      refine rf_G.step (pc' := 62) (ls' := [_, _, _, _, _, _, _, _, _, _]) (st' := []) rfl rfl ?_
      refine rf_G.step (pc' := 63) (st' := [_]) rfl rfl ?_
      refine rf_G.step (pc' := 64) (ls' := [_, _, _, _, _, _, _, _, _, _]) (st' := []) rfl rfl ?_
      exact gg h H
    | succ d ih =>
      intro k f hk hf
      obtain ⟨R2, f1, gg⟩ := ih (k + 1) (upd f k (-1)) (by omega) (fun j hj => by
        unfold upd
        by_cases e : j = k
        · rw [if_pos e]
        · rw [if_neg e]
          exact hf j (by omega))
      refine ⟨R2, f1, fun h H => ?_⟩
      refine rf_G.step (pc' := 36) (st' := [_]) rfl rfl ?_
      refine rf_G.step (pc' := 39) (st' := [_, _]) rfl rfl ?_
      rw [rf_lit 2882]
      refine rf_G.bc rfl (jx_br_ge _ _) (fun zq => absurd zq (nI_ge (by omega) (by omega))) (fun _ => ?_)
      refine rf_G.step (pc' := 43) (st' := [_]) rfl rfl ?_
      refine rf_G.get H rfl rfl ?_
      refine rf_G.step (pc' := 47) (st' := [_, _]) rfl rfl ?_
      refine rf_G.step (pc' := 48) (st' := [_, _, _]) rfl rfl ?_
      refine rf_G.iast H 34 17 2882 (by decide) rfl (rf_ix (by omega) (by decide)) (fun h H => ?_)
      rw [nI_clamp (by omega), rf_sA_sA, rf_sA_at] at H
      refine rf_G.step (pc' := 52) (ls' := [_, _, _, _, _, _, _, _, _, _]) (st' := []) rfl rfl ?_
      refine rf_G.step (pc' := 35) (st' := []) rfl rfl ?_
      rw [nI_1]
      exact gg h H
  obtain ⟨R2, ⟨f1, f2⟩, gg⟩ := clear 2882 0 ((gr_ly R M).1.1 34) (by omega) (fun j hj => absurd hj (by omega))
  refine ⟨R2, ?_, f1, f2⟩
  have loop : ∀ d s, s + d = M → ∀ h, rf_At r (gr_ly R s).1 h → rf_G r 195 7 [.ref r, .int (nI s), .retAddr 0, .retAddr 0, .retAddr 0, .retAddr 0, .retAddr 0, .retAddr 0, .retAddr 0, .retAddr 0] [] h none R2 := by
    intro d
    induction d with
    | zero =>
      intro s hs h H
      obtain rfl : s = M := by omega
      have eM : (gr_ly R s).1.1 0 (Int32.toNatClampNeg 0) = nI s := by
        rw [okM.1.1 0 (by decide)]
        exact P.eM
      refine rf_G.step (pc' := 8) (st' := [_]) rfl rfl ?_
      refine rf_G.step (pc' := 9) (st' := [_, _]) rfl rfl ?_
      refine rf_G.get H rfl rfl ?_
      refine rf_G.step (pc' := 13) (st' := [_, _, _]) rfl rfl ?_
      refine rf_G.iald H 0 1 822 (by decide) rfl (rf_ix (n := 0) (by decide) (by decide)) ?_
      rw [eM]
      refine rf_G.bc rfl (jx_br_ge _ _) (fun _ => ?_) (fun zq => absurd (Int32.le_refl _) zq)
      refine rf_G.step (pc' := 29) (st' := [_]) rfl rfl ?_
      refine rf_G.step (pc' := 30) (st' := [_, _]) rfl rfl ?_
      refine rf_G.putI H rfl rfl (by decide) rfl (fun h H => ?_)
      refine rf_G.step (pc' := 34) (st' := [_]) rfl rfl ?_
      refine rf_G.step (pc' := 35) (ls' := [_, _, _, _, _, _, _, _, _, _]) (st' := []) rfl rfl ?_
      exact gg h (by rw [show (gr_ly R s).1.1 34 = (rf_sI (gr_ly R s).1 29 0).1 34 from rfl, rf_sA_id]; exact H)
    | succ d ih =>
      intro s hs h H
      obtain ⟨k1, k2, k3⟩ := gr_ly_ok R s (fun t ht => (P.ok t (by omega)).1)
      have eM : (gr_ly R s).1.1 0 (Int32.toNatClampNeg 0) = nI M := by
        rw [k1.1 0 (by decide)]
        exact P.eM
      have ok := P.ok s (by omega)
      have cl := rc_levelsOf r (gr_ly R s).1 (gr_ly R s).2 s (rf_sp (R.1 0) s) (by omega) ok.1 (by rw [k1.1 0 (by decide)]; exact ok.2) k2 (by omega)
      refine rf_G.step (pc' := 8) (st' := [_]) rfl rfl ?_
      refine rf_G.step (pc' := 9) (st' := [_, _]) rfl rfl ?_
      refine rf_G.get H rfl rfl ?_
      refine rf_G.step (pc' := 13) (st' := [_, _, _]) rfl rfl ?_
      refine rf_G.iald H 0 1 822 (by decide) rfl (rf_ix (n := 0) (by decide) (by decide)) ?_
      rw [eM]
      refine rf_G.bc rfl (jx_br_ge _ _) (fun zq => absurd zq (nI_ge (by omega) (by omega))) (fun _ => ?_)
      refine rf_G.step (pc' := 18) (st' := [_]) rfl rfl ?_
      refine rf_G.step (pc' := 19) (st' := [_, _]) rfl rfl ?_
      refine rf_G.v1V H rfl (by decide) rfl ⟨Nat.le_of_ble_eq_true rfl, rfl⟩ (Nat.le_of_ble_eq_true rfl) (cl) (fun h H => ?_)
      refine rf_G.step (pc' := 25) (ls' := [_, _, _, _, _, _, _, _, _, _]) (st' := []) rfl rfl ?_
      refine rf_G.step (pc' := 7) (st' := []) rfl rfl ?_
      rw [nI_1]
      exact ih (s + 1) (by omega) h H
  intro h H
  show rf_G r 195 0 [.ref r, .retAddr 0, .retAddr 0, .retAddr 0, .retAddr 0, .retAddr 0, .retAddr 0, .retAddr 0, .retAddr 0, .retAddr 0] [] h _ _
  refine rf_G.step (pc' := 1) (st' := [_]) rfl rfl ?_
  refine rf_G.step (pc' := 2) (st' := [_, _]) rfl rfl ?_
  refine rf_G.putI H rfl rfl (by decide) rfl (fun h H => ?_)
  refine rf_G.step (pc' := 6) (st' := [_]) rfl rfl ?_
  refine rf_G.step (pc' := 7) (ls' := [_, _, _, _, _, _, _, _, _, _]) (st' := []) rfl rfl ?_
  exact loop M 0 (by omega) h H
