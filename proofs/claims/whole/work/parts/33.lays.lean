/-! the reference's levels: lays -/
def rf_kp (R R2 : rf_R) : Prop := (∀ k, k ≠ 9 → R2.1 k = R.1 k) ∧ R2.2.1 = R.2.1 ∧ (∀ k, k ≠ 10 → R2.2.2.1 k = R.2.2.1 k) ∧ R2.2.2.2 = R.2.2.2
theorem rf_kp.rf {R : rf_R} : rf_kp R R := ⟨fun _ _ => rfl, rfl, fun _ _ => rfl, rfl⟩
theorem rf_kp.tr {R R2 R3 : rf_R} (a : rf_kp R R2) (b : rf_kp R2 R3) : rf_kp R R3 := ⟨fun k h => (b.1 k h).trans (a.1 k h), b.2.1.trans a.2.1, fun k h => (b.2.2.1 k h).trans (a.2.2.1 k h), b.2.2.2.trans a.2.2.2⟩
theorem rf_lv_kp (R : rf_R) (n s : Nat) : ∀ k, rf_kp R (rf_lv R n s k).1
  | 0 => rf_jn_keep _ _ _
  | k + 1 => (rf_lv_kp R n s k).tr (rf_jn_keep _ _ _)
/-- a stream's spans, a stream of a work -/
def rf_sp (N : Nat → Int32) (s : Nat) : Nat := (N (2 + 24 * s + 4)).toNatClampNeg
def rf_is (N : Nat → Int32) (s : Nat) (w : Int32) : Prop := N (2 + 24 * s) < 3 ∧ (w = 3 ∨ N (2 + 24 * s + 2) = w)
def rf_isb (N : Nat → Int32) (s : Nat) (w : Int32) : Bool := decide (N (2 + 24 * s) < 3 ∧ (w = 3 ∨ N (2 + 24 * s + 2) = w))
def rf_ly (R : rf_R) (w : Int32) : Nat → rf_R × Nat
  | 0 => (rf_sI R 10 0, 0)
  | s + 1 => if rf_isb (R.1 0) s w = true then ((rf_lv (rf_ly R w s).1 (rf_ly R w s).2 s (rf_sp (R.1 0) s)).1, (rf_lv (rf_ly R w s).1 (rf_ly R w s).2 s (rf_sp (R.1 0) s)).2) else rf_ly R w s
theorem rf_ly_ok (R : rf_R) (w : Int32) : ∀ s, (∀ t, t < s → rf_sp (R.1 0) t ≤ 8) → rf_kp R (rf_ly R w s).1 ∧ (rf_ly R w s).1.2.2.1 10 = nI (rf_ly R w s).2 ∧ (rf_ly R w s).2 ≤ 9 * s
  | 0, _ => ⟨⟨fun _ _ => rfl, rfl, fun k h => by simp [rf_ly, rf_sI, h], rfl⟩, rfl, Nat.le_refl 0⟩
  | s + 1, hs => by
    obtain ⟨h1, h2, h3⟩ := rf_ly_ok R w s (fun t ht => hs t (by omega))
    have h4 := hs s (by omega)
    have e : rf_ly R w (s + 1) = if rf_isb (R.1 0) s w = true then ((rf_lv (rf_ly R w s).1 (rf_ly R w s).2 s (rf_sp (R.1 0) s)).1, (rf_lv (rf_ly R w s).1 (rf_ly R w s).2 s (rf_sp (R.1 0) s)).2) else rf_ly R w s := rfl
    rw [e]
    split
    · obtain ⟨-, g2, g3⟩ := rf_lv_ok (rf_ly R w s).1 (rf_ly R w s).2 s h2 (rf_sp (R.1 0) s)
      exact ⟨h1.tr (rf_lv_kp _ _ _ _), g2, by show (rf_lv _ _ _ _).2 ≤ _; omega⟩
    · exact ⟨h1, h2, by omega⟩
def rf_ex (q : rf_R × Nat) (f : Nat → Int32) : Nat → rf_R × Nat
  | 0 => q
  | k + 1 => (rf_jn (rf_ex q f k).1 (rf_ex q f k).2 (f k), rf_jc (rf_ex q f k).1 (rf_ex q f k).2 (f k))
theorem rf_ex_ok (q : rf_R × Nat) (f : Nat → Int32) (h : q.1.2.2.1 10 = nI q.2) : ∀ k, rf_kp q.1 (rf_ex q f k).1 ∧ (rf_ex q f k).1.2.2.1 10 = nI (rf_ex q f k).2 ∧ (rf_ex q f k).2 ≤ q.2 + k
  | 0 => ⟨rf_kp.rf, h, Nat.le_refl _⟩
  | k + 1 => by
    obtain ⟨h1, h2, h3⟩ := rf_ex_ok q f h k
    have := rf_jc_le (rf_ex q f k).1 (rf_ex q f k).2 (f k)
    exact ⟨h1.tr (rf_jn_keep _ _ _), rf_jn_10 _ _ _ h2, by show rf_jc _ _ _ ≤ _; omega⟩
/-- the levels of a work, with the extras -/
def rf_las (R : rf_R) (w : Int32) (M E : Nat) : rf_R × Nat := rf_ex (rf_ly R w M) (R.1 7) E
theorem rc_lays (r : Nat) (R : rf_R) (w : Int32) (M E : Nat) (hM : M ≤ 12) (hE : E ≤ 2) (eM : R.1 0 0 = nI M) (eE : R.2.2.1 6 = nI E) (hsp : ∀ s, s < M → rf_sp (R.1 0) s ≤ 8 ∧ R.1 0 (2 + 24 * s + 4) = nI (rf_sp (R.1 0) s)) : rf_C 160 r [.ref r, .int w] R none (rf_las R w M E).1 := by
  have hok := fun s (h : s ≤ M) => rf_ly_ok R w s (fun t ht => (hsp t (by omega)).1)
  have loop2 : ∀ (d k : Nat), k + d = E → ∀ h, rf_At r (rf_ex (rf_ly R w M) (R.1 7) k).1 h → rf_G r 160 39 [.ref r, .int w, .int (nI k)] [] h none (rf_las R w M E).1 := by
    intro d
    induction d with
    | zero =>
      intro k hk h H
      obtain rfl : k = E := by omega
      obtain ⟨g1, g2, g3⟩ := rf_ex_ok (rf_ly R w M) (R.1 7) (hok M (Nat.le_refl M)).2.1 k
      have e6 : (rf_ex (rf_ly R w M) (R.1 7) k).1.2.2.1 6 = nI k := by rw [((hok M (Nat.le_refl M)).1.tr g1).2.2.1 6 (by decide)]; exact eE
      refine rf_G.step (pc' := 40) (st' := [_]) rfl rfl ?_
      refine rf_G.step (pc' := 41) (st' := [_, _]) rfl rfl ?_
      refine rf_G.get H rfl rfl ?_
      rw [e6]
      refine rf_G.bc rfl (jx_br_ge _ _) (fun _ => ?_) (fun q => absurd (Int32.le_refl _) q)
      exact rf_G.ret H rfl rfl
    | succ d ih =>
      intro k hk h H
      obtain ⟨g1, g2, g3⟩ := rf_ex_ok (rf_ly R w M) (R.1 7) (hok M (Nat.le_refl M)).2.1 k
      have g4 := (hok M (Nat.le_refl M)).2.2
      have e6 : (rf_ex (rf_ly R w M) (R.1 7) k).1.2.2.1 6 = nI E := by rw [((hok M (Nat.le_refl M)).1.tr g1).2.2.1 6 (by decide)]; exact eE
      have e7 : (rf_ex (rf_ly R w M) (R.1 7) k).1.1 7 = R.1 7 := ((hok M (Nat.le_refl M)).1.tr g1).1 7 (by decide)
      refine rf_G.step (pc' := 40) (st' := [_]) rfl rfl ?_
      refine rf_G.step (pc' := 41) (st' := [_, _]) rfl rfl ?_
      refine rf_G.get H rfl rfl ?_
      rw [e6]
      refine rf_G.bc rfl (jx_br_ge _ _) (fun q => absurd q (nI_ge (by omega) (by omega))) (fun _ => ?_)
      refine rf_G.step (pc' := 48) (st' := [_]) rfl rfl ?_
      refine rf_G.step (pc' := 49) (st' := [_, _]) rfl rfl ?_
      refine rf_G.get H rfl rfl ?_
      refine rf_G.step (pc' := 53) (st' := [_, _, _]) rfl rfl ?_
      refine rf_G.iald H 7 4 2 (by decide) rfl (rf_ix (by omega) (by decide)) ?_
      rw [nI_clamp (by omega), e7]
      refine rf_G.v1V H rfl (by decide) rfl ⟨Nat.le_of_ble_eq_true rfl, rfl⟩ (Nat.le_of_ble_eq_true rfl) (rc_joins r (rf_ex (rf_ly R w M) (R.1 7) k).1 (rf_ex (rf_ly R w M) (R.1 7) k).2 (by omega) g2 (R.1 7 k)) (fun h H => ?_)
      refine rf_G.step (pc' := 60) (ls' := [_, _, _]) (st' := []) rfl rfl ?_
      refine rf_G.step (pc' := 39) (st' := []) rfl rfl ?_
      rw [nI_1]
      exact ih (k + 1) (by omega) h H
  have loop1 : ∀ (d s : Nat), s + d = M → ∀ h, rf_At r (rf_ly R w s).1 h → rf_G r 160 7 [.ref r, .int w, .int (nI s)] [] h none (rf_las R w M E).1 := by
    intro d
    induction d with
    | zero =>
      intro s hs h H
      obtain rfl : s = M := by omega
      obtain ⟨g1, g2, g3⟩ := hok s (Nat.le_refl s)
      refine rf_G.step (pc' := 8) (st' := [_]) rfl rfl ?_
      refine rf_G.step (pc' := 9) (st' := [_, _]) rfl rfl ?_
      refine rf_G.get H rfl rfl ?_
      refine rf_G.step (pc' := 13) (st' := [_, _, _]) rfl rfl ?_
      refine rf_G.iald H 0 1 822 (by decide) rfl (rf_ix (n := 0) (by decide) (by decide)) ?_
      rw [show (rf_ly R w s).1.1 0 (Int32.toNatClampNeg 0) = nI s from (congrFun (g1.1 0 (by decide)) 0).trans eM]
      refine rf_G.bc rfl (jx_br_ge _ _) (fun _ => ?_) (fun q => absurd (Int32.le_refl _) q)
      refine rf_G.step (pc' := 38) (st' := [_]) rfl rfl ?_
      refine rf_G.step (pc' := 39) (ls' := [_, _, _]) (st' := []) rfl rfl ?_
      exact loop2 E 0 (by omega) h H
    | succ d ih =>
      intro s hs h H
      obtain ⟨g1, g2, g3⟩ := hok s (by omega)
      have e0 : (rf_ly R w s).1.1 0 = R.1 0 := g1.1 0 (by decide)
      have nx := ih (s + 1) (by omega)
      rw [← nI_1] at nx
      refine rf_G.step (pc' := 8) (st' := [_]) rfl rfl ?_
      refine rf_G.step (pc' := 9) (st' := [_, _]) rfl rfl ?_
      refine rf_G.get H rfl rfl ?_
      refine rf_G.step (pc' := 13) (st' := [_, _, _]) rfl rfl ?_
      refine rf_G.iald H 0 1 822 (by decide) rfl (rf_ix (n := 0) (by decide) (by decide)) ?_
      rw [show (rf_ly R w s).1.1 0 (Int32.toNatClampNeg 0) = nI M from (congrFun e0 0).trans eM]
      refine rf_G.bc rfl (jx_br_ge _ _) (fun q => absurd q (nI_ge (by omega) (by omega))) (fun _ => ?_)
      have ci := rc_isOf r (rf_ly R w s).1 s (by omega) w
      rw [e0] at ci
      refine rf_G.step (pc' := 18) (st' := [_]) rfl rfl ?_
      refine rf_G.step (pc' := 19) (st' := [_, _]) rfl rfl ?_
      refine rf_G.step (pc' := 20) (st' := [_, _, _]) rfl rfl ?_
      refine rf_G.v2I H rfl (by decide) rfl ⟨Nat.le_of_ble_eq_true rfl, rfl⟩ (Nat.le_of_ble_eq_true rfl) (ci) (fun h H => ?_)
      have eq : rf_ly R w (s + 1) = if rf_isb (R.1 0) s w = true then ((rf_lv (rf_ly R w s).1 (rf_ly R w s).2 s (rf_sp (R.1 0) s)).1, (rf_lv (rf_ly R w s).1 (rf_ly R w s).2 s (rf_sp (R.1 0) s)).2) else rf_ly R w s := rfl
      refine rf_G.br rfl (jx_br_eq _ _) (fun z => ?_) (fun z => ?_)
      · have z1 := (rf_o_0 _).mp z
        rw [if_neg (by unfold rf_isb; rw [decide_eq_true_eq]; exact z1)] at eq
        refine rf_G.step (pc' := 34) (ls' := [_, _, _]) (st' := []) rfl rfl ?_
        refine rf_G.step (pc' := 7) (st' := []) rfl rfl ?_
        exact nx h (by rw [eq]; exact H)
      · have z1 := Decidable.not_not.mp (fun y => z ((rf_o_0 _).mpr y))
        rw [if_pos (by unfold rf_isb; rw [decide_eq_true_eq]; exact z1)] at eq
        have cl := rc_levelsOf r (rf_ly R w s).1 (rf_ly R w s).2 s (rf_sp (R.1 0) s) (by omega) (hsp s (by omega)).1 (by rw [e0]; exact (hsp s (by omega)).2) g2 (by have := (hsp s (by omega)).1; omega)
        refine rf_G.step (pc' := 27) (st' := [_]) rfl rfl ?_
        refine rf_G.step (pc' := 28) (st' := [_, _]) rfl rfl ?_
        refine rf_G.v1V H rfl (by decide) rfl ⟨Nat.le_of_ble_eq_true rfl, rfl⟩ (Nat.le_of_ble_eq_true rfl) (cl) (fun h H => ?_)
        refine rf_G.step (pc' := 34) (ls' := [_, _, _]) (st' := []) rfl rfl ?_
        refine rf_G.step (pc' := 7) (st' := []) rfl rfl ?_
        exact nx h (by rw [eq]; exact H)
  intro h H
  show rf_G r 160 0 [.ref r, .int w, .retAddr 0] [] h _ _
  refine rf_G.step (pc' := 1) (st' := [_]) rfl rfl ?_
  refine rf_G.step (pc' := 2) (st' := [_, _]) rfl rfl ?_
  refine rf_G.putI H rfl rfl (by decide) rfl (fun h H => ?_)
  refine rf_G.step (pc' := 6) (st' := [_]) rfl rfl ?_
  refine rf_G.step (pc' := 7) (ls' := [_, _, _]) (st' := []) rfl rfl ?_
  exact loop1 M 0 (by omega) h H
