/-! the works: a stream comes; still, bought, plain -/
theorem kn_st_0 {M : Nat} {P : Prop} [Decidable P] (hM : M < 12) (h : P) : kn_st M (rf_o P) = 0 := by
  unfold kn_st
  rw [rf_ot h, if_neg (by decide), if_pos hM]
section
variable {W : cw} {g : Nat → Option jx_E} {B D x : Nat} {T : tv} {nx s : Nat}
theorem kc_come (hn : 35 ≤ nx) (hf : ∀ a, nx ≤ a → g a = none) (h : kn_at W g B D x T) (hM : T.2.1 < 12) {y : Nat} {S : sv} (iy : im_str g y S) (h8 : sv_n S ≤ 8) : ∃ g2, jx_T 99 0 (jx_ent 99 [.ref 1, .ref y]) [] (hc W g nx s) (some (.int 0)) (hc (kw_act W B D (nx + 1)) g2 (nx + 2) (s + 18)) ∧ ge g g2 ∧ (∀ a, nx + 2 ≤ a → g2 a = none) ∧ kn_at (kw_act W B D (nx + 1)) g2 (kB B D) (kD D) (nx + 1) (T.1, T.2.1 + 1, (fun j => if j = T.2.1 then S else T.2.2.1 j), T.2.2.2.1, T.2.2.2.2.1, T.2.2.2.2.2) := by
  have cn := kc_now nx s h.n
  obtain ⟨⟨h1, h2, h3, h4, h5⟩, im, ok⟩ := h
  obtain ⟨g2, c, u, im2, fr⟩ := kc_withStream (W := W) (s := s) hn hf im hM iy
  refine ⟨g2, ?_, u, fr, kn_at.act ⟨⟨h1, h2, h3, h4, h5⟩, im, ok⟩ im2 ⟨hM, fun i hi => ?_⟩⟩
  · obtain ⟨t1, t2, t3, t4, e1, e2, e3, k1, -⟩ := im2
    have ca := kc_act (W := W) (g := g2) (nx := nx + 2) (s := s + 18) B D h1 h2 h3 h4 k1
    obtain ⟨s1, s2, s3, s4, f1, f2, f3, q1, -⟩ := im
    show jx_T 99 0 [.ref 1, .ref y] [] _ _ _
    refine jx_T.step (pc' := 1) (st' := [_]) rfl rfl ?_
    refine jx_T.step (pc' := 2) (st' := [_, _]) rfl rfl ?_
    refine cl.v0I (hc_fix 1 (by decide) (cw_c1 _)) rfl (by decide) rfl ⟨Nat.le_of_ble_eq_true rfl, rfl⟩ (Nat.le_of_ble_eq_true rfl) (cn) ?_
    refine jx_T.step (pc' := 6) (st' := [_, _, _]) rfl rfl ?_
    refine cl.v1I (hc_imm (q1).1 (q1).2) rfl (by decide) rfl ⟨Nat.le_of_ble_eq_true rfl, rfl⟩ (Nat.le_of_ble_eq_true rfl) (c) ?_
    refine cl.v1I (hc_fix 1 (by decide) (cw_c1 _)) rfl (by decide) rfl ⟨Nat.le_of_ble_eq_true rfl, rfl⟩ (Nat.le_of_ble_eq_true rfl) (ca) ?_
    exact jx_T.ret rfl rfl
  · show sv_n (if i = T.2.1 then S else T.2.2.1 i) ≤ 8
    by_cases e : i = T.2.1
    · rw [if_pos e]
      exact h8
    · rw [if_neg e]
      exact ok.2 i (by have : i < T.2.1 + 1 := hi; omega)
/-- a stream made and come -/
theorem kc_born (h : kn_at W g B D x T) {G : Nat → Option jx_E} {ny sy : Nat} (u : ge g G) (hn : 35 ≤ ny) (hf : ∀ b, ny ≤ b → G b = none) {a p q n : Nat} {fd ff : Nat → Int32} (ga : g a = none) (ha : 35 ≤ a ∧ G a = some (.inr (10, jx_dfl.getD 10 []))) (hp : 35 ≤ p ∧ G p = some (.inl (0, n, .inl fd))) (hq : 35 ≤ q ∧ G q = some (.inl (0, n, .inl ff))) (h8 : n ≤ 8) (kind hot work from_ am : Int32) (hh : hot = 0 ∨ hot = 1) (hM : T.2.1 < 12) : ∃ g2 g3, jx_T 79 0 (jx_ent 79 [.ref a, .int kind, .int hot, .int work, .int from_, .int am, .ref p, .ref q]) [] (hc W G ny sy) none (hc W g2 (ny + 2) (sy + n + n)) ∧ jx_T 99 0 (jx_ent 99 [.ref 1, .ref a]) [] (hc W g2 (ny + 2) (sy + n + n)) (some (.int 0)) (hc (kw_act W B D (ny + 3)) g3 (ny + 4) (sy + n + n + 18)) ∧ ge g g3 ∧ (∀ b, ny + 4 ≤ b → g3 b = none) ∧ kn_at (kw_act W B D (ny + 3)) g3 (kB B D) (kD D) (ny + 3) (T.1, T.2.1 + 1, (fun j => if j = T.2.1 then sn_S kind hot work from_ am n fd ff else T.2.2.1 j), T.2.2.2.1, T.2.2.2.2.1, T.2.2.2.2.2) := by
  obtain ⟨g2, c, im, k, fr⟩ := kc_initStream (W := W) (s := sy) hn hf ha hp hq h8 kind hot work from_ am hh
  have u2 : ge g g2 := fun b e he => k b e (fun z => by rw [z, ga] at he; exact absurd he (by simp)) (u b e he)
  obtain ⟨g3, c3, u3, fr3, k3⟩ := kc_come (W := W) (s := sy + n + n) (nx := ny + 2) (Nat.le_trans hn (Nat.le_add_right _ _)) fr ⟨h.1, h.2.1.ge u2, h.2.2⟩ hM im h8
  exact ⟨g2, g3, c, c3, u2.tr u3, fr3, k3⟩
theorem kc_still_12 (n : cl_now W g x T) (w hot t q : Int32) (hb : ¬ kn_st T.2.1 (rf_o (0 ≤ w.toInt ∧ w.toInt ≤ 2)) = 0) : jx_T 100 0 (jx_ent 100 [.ref 1, .int w, .int hot, .int t, .int q]) [] (hc W g nx s) (some (.int (kn_st T.2.1 (rf_o (0 ≤ w.toInt ∧ w.toInt ≤ 2))))) (hc W g nx s) := by
  show jx_T 100 0 [.ref 1, .int w, .int hot, .int t, .int q, .retAddr 0] [] _ _ _
  refine jx_T.step (pc' := 1) (st' := [_]) rfl rfl ?_
  refine jx_T.step (pc' := 2) (st' := [_, _]) rfl rfl ?_
  refine jx_T.step (pc' := 3) (st' := [_, _, _]) rfl rfl ?_
  refine jx_T.step (pc' := 4) (st' := [_, _, _, _]) rfl rfl ?_
  refine cl.s3I rfl (by decide) rfl (Nat.le_of_ble_eq_true rfl) (Nat.le_of_ble_eq_true rfl) (kc_within _ _ _ _) ?_
  refine cl.v1I (hc_fix 1 (by decide) (cw_c1 _)) rfl (by decide) rfl ⟨Nat.le_of_ble_eq_true rfl, rfl⟩ (Nat.le_of_ble_eq_true rfl) (kc_newcomer n _) ?_
  refine jx_T.step (pc' := 12) (ls' := [_, _, _, _, _, _]) (st' := []) rfl rfl ?_
  refine jx_T.step (pc' := 14) (st' := [_]) rfl rfl ?_
  refine cl.br rfl (jx_br_eq _ _) (fun zq => absurd zq (hb)) (fun _ => ?_)
  refine jx_T.step (pc' := 19) (st' := [_]) rfl rfl ?_
  exact jx_T.ret rfl rfl
theorem kc_still_3 (n : cl_now W g x T) (w hot t q : Int32) (hM : T.2.1 < 12) (hw : 0 ≤ w.toInt ∧ w.toInt ≤ 2) (hb : ¬ ((0 ≤ t.toInt ∧ t.toInt ≤ 2000) ∧ (1 ≤ q.toInt ∧ q.toInt ≤ 1000000))) : jx_T 100 0 (jx_ent 100 [.ref 1, .int w, .int hot, .int t, .int q]) [] (hc W g nx s) (some (.int 3)) (hc W g nx s) := by
  show jx_T 100 0 [.ref 1, .int w, .int hot, .int t, .int q, .retAddr 0] [] _ _ _
  refine jx_T.step (pc' := 1) (st' := [_]) rfl rfl ?_
  refine jx_T.step (pc' := 2) (st' := [_, _]) rfl rfl ?_
  refine jx_T.step (pc' := 3) (st' := [_, _, _]) rfl rfl ?_
  refine jx_T.step (pc' := 4) (st' := [_, _, _, _]) rfl rfl ?_
  refine cl.s3I rfl (by decide) rfl (Nat.le_of_ble_eq_true rfl) (Nat.le_of_ble_eq_true rfl) (kc_within _ _ _ _) ?_
  refine cl.v1I (hc_fix 1 (by decide) (cw_c1 _)) rfl (by decide) rfl ⟨Nat.le_of_ble_eq_true rfl, rfl⟩ (Nat.le_of_ble_eq_true rfl) (kc_newcomer n _) ?_
  refine jx_T.step (pc' := 12) (ls' := [_, _, _, _, _, _]) (st' := []) rfl rfl ?_
  refine jx_T.step (pc' := 14) (st' := [_]) rfl rfl ?_
  refine cl.br rfl (jx_br_eq _ _) (fun _ => ?_) (fun zq => absurd (kn_st_0 hM hw) zq)
  refine jx_T.step (pc' := 21) (st' := [_]) rfl rfl ?_
  refine cl.s1I rfl (by decide) rfl (Nat.le_of_ble_eq_true rfl) (Nat.le_of_ble_eq_true rfl) (kc_isWarmth _ _) ?_
  refine cl.br rfl (jx_br_eq _ _) (fun z => ?_) (fun z => ?_)
  · refine jx_T.step (pc' := 39) (st' := [_]) rfl rfl ?_
    exact jx_T.ret rfl rfl
  · have z1 := Decidable.not_not.mp (fun y => z ((rf_o_0 _).mpr y))
    refine jx_T.step (pc' := 29) (st' := [_]) rfl rfl ?_
    refine jx_T.step (pc' := 30) (st' := [_, _]) rfl rfl ?_
    refine jx_T.step (pc' := 32) (st' := [_, _, _]) rfl rfl ?_
    refine cl.s3I rfl (by decide) rfl (Nat.le_of_ble_eq_true rfl) (Nat.le_of_ble_eq_true rfl) (kc_within _ _ _ _) ?_
    refine cl.brn rfl (fun zq => absurd ((rf_o_0 _).mpr (fun t => hb ⟨z1, t⟩)) zq) (fun _ => ?_)
    refine jx_T.step (pc' := 39) (st' := [_]) rfl rfl ?_
    exact jx_T.ret rfl rfl
theorem kc_still (hn : 35 ≤ nx) (hf : ∀ a, nx ≤ a → g a = none) (h : kn_at W g B D x T) (w hot t q : Int32) (hh : hot = 0 ∨ hot = 1) (hM : T.2.1 < 12) (hw : 0 ≤ w.toInt ∧ w.toInt ≤ 2) (ht : 0 ≤ t.toInt ∧ t.toInt ≤ 2000) (hq : 1 ≤ q.toInt ∧ q.toInt ≤ 1000000) : ∃ g2, jx_T 100 0 (jx_ent 100 [.ref 1, .int w, .int hot, .int t, .int q]) [] (hc W g nx s) (some (.int 0)) (hc (kw_act W B D (nx + 6)) g2 (nx + 7) (s + 27)) ∧ ge g g2 ∧ (∀ a, nx + 7 ≤ a → g2 a = none) ∧ kn_at (kw_act W B D (nx + 6)) g2 (kB B D) (kD D) (nx + 6) (T.1, T.2.1 + 1, (fun j => if j = T.2.1 then sn_S 1 hot w t q 0 (fun _ => 0) (fun _ => 0) else T.2.2.1 j), T.2.2.2.1, T.2.2.2.2.1, T.2.2.2.2.2) := by
  have l1 : 35 ≤ nx + 1 := Nat.le_trans hn (Nat.le_add_right _ _)
  have l2 : 35 ≤ nx + 2 := Nat.le_trans hn (Nat.le_add_right _ _)
  have u : ge g (jx_up (jx_up (jx_up g nx (.inr (10, jx_dfl.getD 10 []))) (nx + 1) (.inl (0, 0, .inl (fun _ => 0)))) (nx + 2) (.inl (0, 0, .inl (fun _ => 0)))) := ((ge.up (hf nx (Nat.le_refl _))).tr (ge.up ((jx_up_ne (by omega)).trans (hf _ (by omega))))).tr (ge.up ((jx_up_ne (by omega)).trans ((jx_up_ne (by omega)).trans (hf _ (by omega)))))
  obtain ⟨g2, g3, c, c3, r⟩ := kc_born h (ny := nx + 3) (sy := s + 9) u (Nat.le_trans hn (Nat.le_add_right _ _)) (fun b hb => (jx_up_ne (by omega)).trans ((jx_up_ne (by omega)).trans ((jx_up_ne (by omega)).trans (hf b (by omega))))) (a := nx) (p := nx + 1) (q := nx + 2) (n := 0) (fd := fun _ => 0) (ff := fun _ => 0) (hf nx (Nat.le_refl _)) ⟨hn, (jx_up_ne (by omega)).trans ((jx_up_ne (by omega)).trans jx_up_eq)⟩ ⟨l1, (jx_up_ne (by omega)).trans jx_up_eq⟩ ⟨l2, jx_up_eq⟩ (by omega) 1 hot w t q hh hM
  refine ⟨g3, ?_, r⟩
  have n := h.n
  show jx_T 100 0 [.ref 1, .int w, .int hot, .int t, .int q, .retAddr 0] [] _ _ _
  refine jx_T.step (pc' := 1) (st' := [_]) rfl rfl ?_
  refine jx_T.step (pc' := 2) (st' := [_, _]) rfl rfl ?_
  refine jx_T.step (pc' := 3) (st' := [_, _, _]) rfl rfl ?_
  refine jx_T.step (pc' := 4) (st' := [_, _, _, _]) rfl rfl ?_
  refine cl.s3I rfl (by decide) rfl (Nat.le_of_ble_eq_true rfl) (Nat.le_of_ble_eq_true rfl) (kc_within _ _ _ _) ?_
  refine cl.v1I (hc_fix 1 (by decide) (cw_c1 _)) rfl (by decide) rfl ⟨Nat.le_of_ble_eq_true rfl, rfl⟩ (Nat.le_of_ble_eq_true rfl) (kc_newcomer n _) ?_
  refine jx_T.step (pc' := 12) (ls' := [_, _, _, _, _, _]) (st' := []) rfl rfl ?_
  refine jx_T.step (pc' := 14) (st' := [_]) rfl rfl ?_
  refine cl.br rfl (jx_br_eq _ _) (fun _ => ?_) (fun zq => absurd (kn_st_0 hM hw) zq)
  refine jx_T.step (pc' := 21) (st' := [_]) rfl rfl ?_
  refine cl.s1I rfl (by decide) rfl (Nat.le_of_ble_eq_true rfl) (Nat.le_of_ble_eq_true rfl) (kc_isWarmth _ _) ?_
  refine cl.br rfl (jx_br_eq _ _) (fun zq => absurd zq (fun q => (rf_o_0 _).mp q ht)) (fun _ => ?_)
  refine jx_T.step (pc' := 29) (st' := [_]) rfl rfl ?_
  refine jx_T.step (pc' := 30) (st' := [_, _]) rfl rfl ?_
  refine jx_T.step (pc' := 32) (st' := [_, _, _]) rfl rfl ?_
  refine cl.s3I rfl (by decide) rfl (Nat.le_of_ble_eq_true rfl) (Nat.le_of_ble_eq_true rfl) (kc_within _ _ _ _) ?_
  refine cl.brn rfl (fun _ => ?_) (fun zq => absurd zq (fun y => (rf_o_0 _).mp y hq))
  refine jx_T.step (pc' := 41) (st' := [_]) rfl rfl ?_
  refine cl.newo hn rfl ?_
  refine jx_T.step (pc' := 45) (st' := [_, _, _]) rfl rfl ?_
  refine jx_T.step (pc' := 46) (st' := [_, _, _, _]) rfl rfl ?_
  refine jx_T.step (pc' := 47) (st' := [_, _, _, _, _]) rfl rfl ?_
  refine jx_T.step (pc' := 48) (st' := [_, _, _, _, _, _]) rfl rfl ?_
  refine jx_T.step (pc' := 49) (st' := [_, _, _, _, _, _, _]) rfl rfl ?_
  refine jx_T.step (pc' := 51) (st' := [_, _, _, _, _, _, _, _]) rfl rfl ?_
  refine jx_T.step (pc' := 52) (st' := [_, _, _, _, _, _, _, _, _]) rfl rfl ?_
  refine cl.newI l1 rfl (by decide) ?_
  refine jx_T.step (pc' := 55) (st' := [_, _, _, _, _, _, _, _, _, _]) rfl rfl ?_
  refine cl.newI l2 rfl (by decide) ?_
  refine cl.p7V rfl (by decide) rfl (Nat.le_of_ble_eq_true rfl) (Nat.le_of_ble_eq_true rfl) (c) ?_
  refine cl.v1I (hc_fix 1 (by decide) (cw_c1 _)) rfl (by decide) rfl ⟨Nat.le_of_ble_eq_true rfl, rfl⟩ (Nat.le_of_ble_eq_true rfl) (c3) ?_
  exact jx_T.ret rfl rfl
theorem kc_bought_2 (n : cl_now W g x T) (b t q : Int32) (hb : ¬ T.2.1 < 12) : jx_T 102 0 (jx_ent 102 [.ref 1, .int b, .int t, .int q]) [] (hc W g nx s) (some (.int 2)) (hc W g nx s) := by
  have e : kn_st T.2.1 1 = 2 := by unfold kn_st; rw [if_neg (by decide), if_neg hb]
  show jx_T 102 0 [.ref 1, .int b, .int t, .int q, .retAddr 0, .retAddr 0] [] _ _ _
  refine jx_T.step (pc' := 1) (st' := [_]) rfl rfl ?_
  refine jx_T.step (pc' := 2) (st' := [_, _]) rfl rfl ?_
  refine cl.v1I (hc_fix 1 (by decide) (cw_c1 _)) rfl (by decide) rfl ⟨Nat.le_of_ble_eq_true rfl, rfl⟩ (Nat.le_of_ble_eq_true rfl) (kc_newcomer n _) ?_
  rw [e]
  refine jx_T.step (pc' := 7) (ls' := [_, _, _, _, _, _]) (st' := []) rfl rfl ?_
  refine jx_T.step (pc' := 9) (st' := [_]) rfl rfl ?_
  refine cl.br rfl (jx_br_eq _ _) (fun zq => absurd zq (by decide)) (fun _ => ?_)
  refine jx_T.step (pc' := 14) (st' := [_]) rfl rfl ?_
  exact jx_T.ret rfl rfl
theorem kc_bought_3 (n : cl_now W g x T) (b t q : Int32) (hM : T.2.1 < 12) (hb : ¬ ((0 ≤ t.toInt ∧ t.toInt ≤ 2000) ∧ (1 ≤ q.toInt ∧ q.toInt ≤ 1000))) : jx_T 102 0 (jx_ent 102 [.ref 1, .int b, .int t, .int q]) [] (hc W g nx s) (some (.int 3)) (hc W g nx s) := by
  have e : kn_st T.2.1 1 = 0 := by unfold kn_st; rw [if_neg (by decide), if_pos hM]
  show jx_T 102 0 [.ref 1, .int b, .int t, .int q, .retAddr 0, .retAddr 0] [] _ _ _
  refine jx_T.step (pc' := 1) (st' := [_]) rfl rfl ?_
  refine jx_T.step (pc' := 2) (st' := [_, _]) rfl rfl ?_
  refine cl.v1I (hc_fix 1 (by decide) (cw_c1 _)) rfl (by decide) rfl ⟨Nat.le_of_ble_eq_true rfl, rfl⟩ (Nat.le_of_ble_eq_true rfl) (kc_newcomer n _) ?_
  rw [e]
  refine jx_T.step (pc' := 7) (ls' := [_, _, _, _, _, _]) (st' := []) rfl rfl ?_
  refine jx_T.step (pc' := 9) (st' := [_]) rfl rfl ?_
  refine cl.br rfl (jx_br_eq _ _) (fun _ => ?_) (fun zq => absurd (rfl) zq)
  refine jx_T.step (pc' := 16) (st' := [_]) rfl rfl ?_
  refine cl.s1I rfl (by decide) rfl (Nat.le_of_ble_eq_true rfl) (Nat.le_of_ble_eq_true rfl) (kc_isWarmth _ _) ?_
  refine cl.br rfl (jx_br_eq _ _) (fun z => ?_) (fun z => ?_)
  · refine jx_T.step (pc' := 34) (st' := [_]) rfl rfl ?_
    exact jx_T.ret rfl rfl
  · have z1 := Decidable.not_not.mp (fun y => z ((rf_o_0 _).mpr y))
    refine jx_T.step (pc' := 23) (st' := [_]) rfl rfl ?_
    refine jx_T.step (pc' := 24) (st' := [_, _]) rfl rfl ?_
    refine jx_T.step (pc' := 27) (st' := [_, _, _]) rfl rfl ?_
    refine cl.s3I rfl (by decide) rfl (Nat.le_of_ble_eq_true rfl) (Nat.le_of_ble_eq_true rfl) (kc_within _ _ _ _) ?_
    refine cl.brn rfl (fun zq => absurd ((rf_o_0 _).mpr (fun t => hb ⟨z1, t⟩)) zq) (fun _ => ?_)
    refine jx_T.step (pc' := 34) (st' := [_]) rfl rfl ?_
    exact jx_T.ret rfl rfl
theorem kc_bought (hn : 35 ≤ nx) (hf : ∀ a, nx ≤ a → g a = none) (h : kn_at W g B D x T) (b t q : Int32) (hh : b = 0 ∨ b = 1) (hM : T.2.1 < 12) (ht : 0 ≤ t.toInt ∧ t.toInt ≤ 2000) (hq : 1 ≤ q.toInt ∧ q.toInt ≤ 1000) : ∃ g2, jx_T 102 0 (jx_ent 102 [.ref 1, .int b, .int t, .int q]) [] (hc W g nx s) (some (.int 0)) (hc (kw_act W B D (nx + 6)) g2 (nx + 7) (s + 27)) ∧ ge g g2 ∧ (∀ a, nx + 7 ≤ a → g2 a = none) ∧ kn_at (kw_act W B D (nx + 6)) g2 (kB B D) (kD D) (nx + 6) (T.1, T.2.1 + 1, (fun j => if j = T.2.1 then sn_S (if b = 0 then 4 else 3) b (-1) t q 0 (fun _ => 0) (fun _ => 0) else T.2.2.1 j), T.2.2.2.1, T.2.2.2.2.1, T.2.2.2.2.2) := by
  have e : kn_st T.2.1 1 = 0 := by unfold kn_st; rw [if_neg (by decide), if_pos hM]
  have l1 : 35 ≤ nx + 1 := Nat.le_trans hn (Nat.le_add_right _ _)
  have l2 : 35 ≤ nx + 2 := Nat.le_trans hn (Nat.le_add_right _ _)
  have u : ge g (jx_up (jx_up (jx_up g nx (.inr (10, jx_dfl.getD 10 []))) (nx + 1) (.inl (0, 0, .inl (fun _ => 0)))) (nx + 2) (.inl (0, 0, .inl (fun _ => 0)))) := ((ge.up (hf nx (Nat.le_refl _))).tr (ge.up ((jx_up_ne (by omega)).trans (hf _ (by omega))))).tr (ge.up ((jx_up_ne (by omega)).trans ((jx_up_ne (by omega)).trans (hf _ (by omega)))))
  obtain ⟨g2, g3, c, c3, r⟩ := kc_born h (ny := nx + 3) (sy := s + 9) u (Nat.le_trans hn (Nat.le_add_right _ _)) (fun b hb => (jx_up_ne (by omega)).trans ((jx_up_ne (by omega)).trans ((jx_up_ne (by omega)).trans (hf b (by omega))))) (a := nx) (p := nx + 1) (q := nx + 2) (n := 0) (fd := fun _ => 0) (ff := fun _ => 0) (hf nx (Nat.le_refl _)) ⟨hn, (jx_up_ne (by omega)).trans ((jx_up_ne (by omega)).trans jx_up_eq)⟩ ⟨l1, (jx_up_ne (by omega)).trans jx_up_eq⟩ ⟨l2, jx_up_eq⟩ (by omega) (if b = 0 then 4 else 3) b (-1) t q hh hM
  refine ⟨g3, ?_, r⟩
  have n := h.n
  show jx_T 102 0 [.ref 1, .int b, .int t, .int q, .retAddr 0, .retAddr 0] [] _ _ _
  refine jx_T.step (pc' := 1) (st' := [_]) rfl rfl ?_
  refine jx_T.step (pc' := 2) (st' := [_, _]) rfl rfl ?_
  refine cl.v1I (hc_fix 1 (by decide) (cw_c1 _)) rfl (by decide) rfl ⟨Nat.le_of_ble_eq_true rfl, rfl⟩ (Nat.le_of_ble_eq_true rfl) (kc_newcomer n _) ?_
  rw [e]
  refine jx_T.step (pc' := 7) (ls' := [_, _, _, _, _, _]) (st' := []) rfl rfl ?_
  refine jx_T.step (pc' := 9) (st' := [_]) rfl rfl ?_
  refine cl.br rfl (jx_br_eq _ _) (fun _ => ?_) (fun zq => absurd (rfl) zq)
  refine jx_T.step (pc' := 16) (st' := [_]) rfl rfl ?_
  refine cl.s1I rfl (by decide) rfl (Nat.le_of_ble_eq_true rfl) (Nat.le_of_ble_eq_true rfl) (kc_isWarmth _ _) ?_
  refine cl.br rfl (jx_br_eq _ _) (fun zq => absurd zq (fun q => (rf_o_0 _).mp q ht)) (fun _ => ?_)
  refine jx_T.step (pc' := 23) (st' := [_]) rfl rfl ?_
  refine jx_T.step (pc' := 24) (st' := [_, _]) rfl rfl ?_
  refine jx_T.step (pc' := 27) (st' := [_, _, _]) rfl rfl ?_
  refine cl.s3I rfl (by decide) rfl (Nat.le_of_ble_eq_true rfl) (Nat.le_of_ble_eq_true rfl) (kc_within _ _ _ _) ?_
  refine cl.brn rfl (fun _ => ?_) (fun zq => absurd zq (fun y => (rf_o_0 _).mp y hq))
  refine jx_T.step (pc' := 36) (st' := [_]) rfl rfl ?_
  by_cases z : b = 0
  · rw [if_pos z] at c
    refine cl.br rfl (jx_br_eq _ _) (fun _ => ?_) (fun zq => absurd (z) zq)
    refine jx_T.step (pc' := 44) (st' := [_]) rfl rfl ?_
    refine jx_T.step (pc' := 46) (ls' := [_, _, _, _, _, _]) (st' := []) rfl rfl ?_
    refine jx_T.step (pc' := 47) (st' := [_]) rfl rfl ?_
    refine cl.newo hn rfl ?_
    refine jx_T.step (pc' := 51) (st' := [_, _, _]) rfl rfl ?_
    refine jx_T.step (pc' := 53) (st' := [_, _, _, _]) rfl rfl ?_
    refine jx_T.step (pc' := 54) (st' := [_, _, _, _, _]) rfl rfl ?_
    refine jx_T.step (pc' := 55) (st' := [_, _, _, _, _, _]) rfl rfl ?_
    refine jx_T.step (pc' := 56) (st' := [_, _, _, _, _, _, _]) rfl rfl ?_
    refine jx_T.step (pc' := 57) (st' := [_, _, _, _, _, _, _, _]) rfl rfl ?_
    refine jx_T.step (pc' := 58) (st' := [_, _, _, _, _, _, _, _, _]) rfl rfl ?_
    refine cl.newI l1 rfl (by decide) ?_
    refine jx_T.step (pc' := 61) (st' := [_, _, _, _, _, _, _, _, _, _]) rfl rfl ?_
    refine cl.newI l2 rfl (by decide) ?_
    refine cl.p7V rfl (by decide) rfl (Nat.le_of_ble_eq_true rfl) (Nat.le_of_ble_eq_true rfl) (c) ?_
    refine cl.v1I (hc_fix 1 (by decide) (cw_c1 _)) rfl (by decide) rfl ⟨Nat.le_of_ble_eq_true rfl, rfl⟩ (Nat.le_of_ble_eq_true rfl) (c3) ?_
    exact jx_T.ret rfl rfl
  · rw [if_neg z] at c
    refine cl.br rfl (jx_br_eq _ _) (fun zq => absurd zq (z)) (fun _ => ?_)
    refine jx_T.step (pc' := 40) (st' := [_]) rfl rfl ?_
    refine jx_T.step (pc' := 44) (st' := [_]) rfl rfl ?_
    refine jx_T.step (pc' := 46) (ls' := [_, _, _, _, _, _]) (st' := []) rfl rfl ?_
    refine jx_T.step (pc' := 47) (st' := [_]) rfl rfl ?_
    refine cl.newo hn rfl ?_
    refine jx_T.step (pc' := 51) (st' := [_, _, _]) rfl rfl ?_
    refine jx_T.step (pc' := 53) (st' := [_, _, _, _]) rfl rfl ?_
    refine jx_T.step (pc' := 54) (st' := [_, _, _, _, _]) rfl rfl ?_
    refine jx_T.step (pc' := 55) (st' := [_, _, _, _, _, _]) rfl rfl ?_
    refine jx_T.step (pc' := 56) (st' := [_, _, _, _, _, _, _]) rfl rfl ?_
    refine jx_T.step (pc' := 57) (st' := [_, _, _, _, _, _, _, _]) rfl rfl ?_
    refine jx_T.step (pc' := 58) (st' := [_, _, _, _, _, _, _, _, _]) rfl rfl ?_
    refine cl.newI l1 rfl (by decide) ?_
    refine jx_T.step (pc' := 61) (st' := [_, _, _, _, _, _, _, _, _, _]) rfl rfl ?_
    refine cl.newI l2 rfl (by decide) ?_
    refine cl.p7V rfl (by decide) rfl (Nat.le_of_ble_eq_true rfl) (Nat.le_of_ble_eq_true rfl) (c) ?_
    refine cl.v1I (hc_fix 1 (by decide) (cw_c1 _)) rfl (by decide) rfl ⟨Nat.le_of_ble_eq_true rfl, rfl⟩ (Nat.le_of_ble_eq_true rfl) (c3) ?_
    exact jx_T.ret rfl rfl
theorem kc_plain_12 (n : cl_now W g x T) (w a b q : Int32) (hb : ¬ kn_st T.2.1 (rf_o (0 ≤ w.toInt ∧ w.toInt ≤ 2)) = 0) : jx_T 96 0 (jx_ent 96 [.ref 1, .int w, .int a, .int b, .int q]) [] (hc W g nx s) (some (.int (kn_st T.2.1 (rf_o (0 ≤ w.toInt ∧ w.toInt ≤ 2))))) (hc W g nx s) := by
  show jx_T 96 0 [.ref 1, .int w, .int a, .int b, .int q, .retAddr 0, .retAddr 0, .retAddr 0] [] _ _ _
  refine jx_T.step (pc' := 1) (st' := [_]) rfl rfl ?_
  refine jx_T.step (pc' := 2) (st' := [_, _]) rfl rfl ?_
  refine jx_T.step (pc' := 3) (st' := [_, _, _]) rfl rfl ?_
  refine jx_T.step (pc' := 4) (st' := [_, _, _, _]) rfl rfl ?_
  refine cl.s3I rfl (by decide) rfl (Nat.le_of_ble_eq_true rfl) (Nat.le_of_ble_eq_true rfl) (kc_within _ _ _ _) ?_
  refine cl.v1I (hc_fix 1 (by decide) (cw_c1 _)) rfl (by decide) rfl ⟨Nat.le_of_ble_eq_true rfl, rfl⟩ (Nat.le_of_ble_eq_true rfl) (kc_newcomer n _) ?_
  refine jx_T.step (pc' := 12) (ls' := [_, _, _, _, _, _, _, _]) (st' := []) rfl rfl ?_
  refine jx_T.step (pc' := 14) (st' := [_]) rfl rfl ?_
  refine cl.br rfl (jx_br_eq _ _) (fun zq => absurd zq (hb)) (fun _ => ?_)
  refine jx_T.step (pc' := 19) (st' := [_]) rfl rfl ?_
  exact jx_T.ret rfl rfl
theorem kc_plain_3 (n : cl_now W g x T) (w a b q : Int32) (hM : T.2.1 < 12) (hw : 0 ≤ w.toInt ∧ w.toInt ≤ 2) (hb : ¬ ((0 ≤ a.toInt ∧ a.toInt ≤ 2000) ∧ (0 ≤ b.toInt ∧ b.toInt ≤ 2000) ∧ ¬ a = b ∧ (1 ≤ q.toInt ∧ q.toInt ≤ 1000))) : jx_T 96 0 (jx_ent 96 [.ref 1, .int w, .int a, .int b, .int q]) [] (hc W g nx s) (some (.int 3)) (hc W g nx s) := by
  show jx_T 96 0 [.ref 1, .int w, .int a, .int b, .int q, .retAddr 0, .retAddr 0, .retAddr 0] [] _ _ _
  refine jx_T.step (pc' := 1) (st' := [_]) rfl rfl ?_
  refine jx_T.step (pc' := 2) (st' := [_, _]) rfl rfl ?_
  refine jx_T.step (pc' := 3) (st' := [_, _, _]) rfl rfl ?_
  refine jx_T.step (pc' := 4) (st' := [_, _, _, _]) rfl rfl ?_
  refine cl.s3I rfl (by decide) rfl (Nat.le_of_ble_eq_true rfl) (Nat.le_of_ble_eq_true rfl) (kc_within _ _ _ _) ?_
  refine cl.v1I (hc_fix 1 (by decide) (cw_c1 _)) rfl (by decide) rfl ⟨Nat.le_of_ble_eq_true rfl, rfl⟩ (Nat.le_of_ble_eq_true rfl) (kc_newcomer n _) ?_
  refine jx_T.step (pc' := 12) (ls' := [_, _, _, _, _, _, _, _]) (st' := []) rfl rfl ?_
  refine jx_T.step (pc' := 14) (st' := [_]) rfl rfl ?_
  refine cl.br rfl (jx_br_eq _ _) (fun _ => ?_) (fun zq => absurd (kn_st_0 hM hw) zq)
  refine jx_T.step (pc' := 21) (st' := [_]) rfl rfl ?_
  refine cl.s1I rfl (by decide) rfl (Nat.le_of_ble_eq_true rfl) (Nat.le_of_ble_eq_true rfl) (kc_isWarmth _ _) ?_
  refine cl.br rfl (jx_br_eq _ _) (fun z => ?_) (fun z => ?_)
  · refine jx_T.step (pc' := 52) (st' := [_]) rfl rfl ?_
    exact jx_T.ret rfl rfl
  · have z1 := Decidable.not_not.mp (fun y => z ((rf_o_0 _).mpr y))
    refine jx_T.step (pc' := 28) (st' := [_]) rfl rfl ?_
    refine cl.s1I rfl (by decide) rfl (Nat.le_of_ble_eq_true rfl) (Nat.le_of_ble_eq_true rfl) (kc_isWarmth _ _) ?_
    refine cl.br rfl (jx_br_eq _ _) (fun z => ?_) (fun z => ?_)
    · refine jx_T.step (pc' := 52) (st' := [_]) rfl rfl ?_
      exact jx_T.ret rfl rfl
    · have z2 := Decidable.not_not.mp (fun y => z ((rf_o_0 _).mpr y))
      refine jx_T.step (pc' := 35) (st' := [_]) rfl rfl ?_
      refine jx_T.step (pc' := 36) (st' := [_, _]) rfl rfl ?_
      refine cl.bc rfl (jx_br_eq _ _) (fun z3 => ?_) (fun z3 => ?_)
      · refine jx_T.step (pc' := 52) (st' := [_]) rfl rfl ?_
        exact jx_T.ret rfl rfl
      · refine jx_T.step (pc' := 41) (st' := [_]) rfl rfl ?_
        refine jx_T.step (pc' := 42) (st' := [_, _]) rfl rfl ?_
        refine jx_T.step (pc' := 45) (st' := [_, _, _]) rfl rfl ?_
        refine cl.s3I rfl (by decide) rfl (Nat.le_of_ble_eq_true rfl) (Nat.le_of_ble_eq_true rfl) (kc_within _ _ _ _) ?_
        refine cl.brn rfl (fun zq => absurd ((rf_o_0 _).mpr (fun t => hb ⟨z1, z2, z3, t⟩)) zq) (fun _ => ?_)
        refine jx_T.step (pc' := 52) (st' := [_]) rfl rfl ?_
        exact jx_T.ret rfl rfl
theorem kc_plain (hn : 35 ≤ nx) (hf : ∀ a, nx ≤ a → g a = none) (h : kn_at W g B D x T) (w a b q : Int32) (hM : T.2.1 < 12) (hw : 0 ≤ w.toInt ∧ w.toInt ≤ 2) (ha : 0 ≤ a.toInt ∧ a.toInt ≤ 2000) (hb : 0 ≤ b.toInt ∧ b.toInt ≤ 2000) (hab : ¬ a = b) (hq : 1 ≤ q.toInt ∧ q.toInt ≤ 1000) : ∃ g2, jx_T 96 0 (jx_ent 96 [.ref 1, .int w, .int a, .int b, .int q]) [] (hc W g nx s) (some (.int 0)) (hc (kw_act W B D (nx + 6)) g2 (nx + 7) (s + 31)) ∧ ge g g2 ∧ (∀ a, nx + 7 ≤ a → g2 a = none) ∧ kn_at (kw_act W B D (nx + 6)) g2 (kB B D) (kD D) (nx + 6) (T.1, T.2.1 + 1, (fun j => if j = T.2.1 then sn_S 0 (rf_o (b < a)) w a 0 1 (upd (fun _ => 0) 0 (if 0 ≤ a - b then a - b else -(a - b))) (upd (fun _ => 0) 0 q) else T.2.2.1 j), T.2.2.2.1, T.2.2.2.2.1, T.2.2.2.2.2) := by
  have l1 : 35 ≤ nx + 1 := Nat.le_trans hn (Nat.le_add_right _ _)
  have l2 : 35 ≤ nx + 2 := Nat.le_trans hn (Nat.le_add_right _ _)
  obtain ⟨d, ed⟩ : ∃ d, d = if 0 ≤ a - b then a - b else -(a - b) := ⟨_, rfl⟩
  rw [← ed]
  have u : ge g (jx_up (jx_up (jx_up g nx (.inl (0, 1, .inl (upd (fun _ => 0) 0 d)))) (nx + 1) (.inl (0, 1, .inl (upd (fun _ => 0) 0 q)))) (nx + 2) (.inr (10, jx_dfl.getD 10 []))) := ((ge.up (hf nx (Nat.le_refl _))).tr (ge.up ((jx_up_ne (by omega)).trans (hf _ (by omega))))).tr (ge.up ((jx_up_ne (by omega)).trans ((jx_up_ne (by omega)).trans (hf _ (by omega)))))
  obtain ⟨g2, g3, c, c3, r⟩ := kc_born h (ny := nx + 3) (sy := s + 11) u (Nat.le_trans hn (Nat.le_add_right _ _)) (fun b hb => (jx_up_ne (by omega)).trans ((jx_up_ne (by omega)).trans ((jx_up_ne (by omega)).trans (hf b (by omega))))) (a := nx + 2) (p := nx) (q := nx + 1) (n := 1) (fd := upd (fun _ => 0) 0 d) (ff := upd (fun _ => 0) 0 q) (hf _ (by omega)) ⟨l2, jx_up_eq⟩ ⟨hn, (jx_up_ne (by omega)).trans ((jx_up_ne (by omega)).trans jx_up_eq)⟩ ⟨l1, (jx_up_ne (by omega)).trans jx_up_eq⟩ (by omega) 0 (rf_o (b < a)) w a 0 (rf_o_01 _) hM
  refine ⟨g3, ?_, r⟩
  have n := h.n
  show jx_T 96 0 [.ref 1, .int w, .int a, .int b, .int q, .retAddr 0, .retAddr 0, .retAddr 0] [] _ _ _
  refine jx_T.step (pc' := 1) (st' := [_]) rfl rfl ?_
  refine jx_T.step (pc' := 2) (st' := [_, _]) rfl rfl ?_
  refine jx_T.step (pc' := 3) (st' := [_, _, _]) rfl rfl ?_
  refine jx_T.step (pc' := 4) (st' := [_, _, _, _]) rfl rfl ?_
  refine cl.s3I rfl (by decide) rfl (Nat.le_of_ble_eq_true rfl) (Nat.le_of_ble_eq_true rfl) (kc_within _ _ _ _) ?_
  refine cl.v1I (hc_fix 1 (by decide) (cw_c1 _)) rfl (by decide) rfl ⟨Nat.le_of_ble_eq_true rfl, rfl⟩ (Nat.le_of_ble_eq_true rfl) (kc_newcomer n _) ?_
  refine jx_T.step (pc' := 12) (ls' := [_, _, _, _, _, _, _, _]) (st' := []) rfl rfl ?_
  refine jx_T.step (pc' := 14) (st' := [_]) rfl rfl ?_
  refine cl.br rfl (jx_br_eq _ _) (fun _ => ?_) (fun zq => absurd (kn_st_0 hM hw) zq)
  refine jx_T.step (pc' := 21) (st' := [_]) rfl rfl ?_
  refine cl.s1I rfl (by decide) rfl (Nat.le_of_ble_eq_true rfl) (Nat.le_of_ble_eq_true rfl) (kc_isWarmth _ _) ?_
  refine cl.br rfl (jx_br_eq _ _) (fun zq => absurd zq (fun q => (rf_o_0 _).mp q ha)) (fun _ => ?_)
  refine jx_T.step (pc' := 28) (st' := [_]) rfl rfl ?_
  refine cl.s1I rfl (by decide) rfl (Nat.le_of_ble_eq_true rfl) (Nat.le_of_ble_eq_true rfl) (kc_isWarmth _ _) ?_
  refine cl.br rfl (jx_br_eq _ _) (fun zq => absurd zq (fun q => (rf_o_0 _).mp q hb)) (fun _ => ?_)
  refine jx_T.step (pc' := 35) (st' := [_]) rfl rfl ?_
  refine jx_T.step (pc' := 36) (st' := [_, _]) rfl rfl ?_
  refine cl.bc rfl (jx_br_eq _ _) (fun zq => absurd zq (hab)) (fun _ => ?_)
  refine jx_T.step (pc' := 41) (st' := [_]) rfl rfl ?_
  refine jx_T.step (pc' := 42) (st' := [_, _]) rfl rfl ?_
  refine jx_T.step (pc' := 45) (st' := [_, _, _]) rfl rfl ?_
  refine cl.s3I rfl (by decide) rfl (Nat.le_of_ble_eq_true rfl) (Nat.le_of_ble_eq_true rfl) (kc_within _ _ _ _) ?_
  refine cl.brn rfl (fun _ => ?_) (fun zq => absurd zq (fun y => (rf_o_0 _).mp y hq))
  refine jx_T.step (pc' := 54) (st' := [_]) rfl rfl ?_
  refine cl.newI hn rfl (by decide) ?_
  refine jx_T.step (pc' := 57) (st' := [_, _]) rfl rfl ?_
  refine jx_T.step (pc' := 58) (st' := [_, _, _]) rfl rfl ?_
  refine jx_T.step (pc' := 59) (st' := [_, _, _, _]) rfl rfl ?_
  refine jx_T.step (pc' := 60) (st' := [_, _, _, _, _]) rfl rfl ?_
  refine jx_T.step (pc' := 61) (st' := [_, _, _, _]) rfl rfl ?_
  refine cl.s1I rfl (by decide) rfl (Nat.le_of_ble_eq_true rfl) (Nat.le_of_ble_eq_true rfl) (kc_abs _ _) ?_
  rw [← ed]
  refine cl.iastn hn rfl (by decide) ?_
  refine jx_T.step (pc' := 67) (ls' := [_, _, _, _, _, _, _, _]) (st' := []) rfl rfl ?_
  refine jx_T.step (pc' := 68) (st' := [_]) rfl rfl ?_
  refine cl.newI l1 rfl (by decide) ?_
  refine jx_T.step (pc' := 71) (st' := [_, _]) rfl rfl ?_
  refine jx_T.step (pc' := 72) (st' := [_, _, _]) rfl rfl ?_
  refine jx_T.step (pc' := 74) (st' := [_, _, _, _]) rfl rfl ?_
  refine cl.iastn l1 rfl (by decide) ?_
  refine jx_T.step (pc' := 77) (ls' := [_, _, _, _, _, _, _, _]) (st' := []) rfl rfl ?_
  refine jx_T.step (pc' := 78) (st' := [_]) rfl rfl ?_
  refine cl.newo l2 rfl ?_
  refine jx_T.step (pc' := 82) (st' := [_, _, _]) rfl rfl ?_
  refine jx_T.step (pc' := 83) (st' := [_, _, _, _]) rfl rfl ?_
  refine jx_T.step (pc' := 84) (st' := [_, _, _, _, _]) rfl rfl ?_
  refine jx_T.step (pc' := 85) (st' := [_, _, _, _, _, _]) rfl rfl ?_
  by_cases z : b < a
  · rw [rf_ot z] at c
    refine cl.bc rfl (jx_br_le _ _) (fun zq => absurd zq (Int32.not_le.mpr z)) (fun _ => ?_)
    refine jx_T.step (pc' := 89) (st' := [_, _, _, _, _]) rfl rfl ?_
    refine jx_T.step (pc' := 93) (st' := [_, _, _, _, _]) rfl rfl ?_
    refine jx_T.step (pc' := 94) (st' := [_, _, _, _, _, _]) rfl rfl ?_
    refine jx_T.step (pc' := 95) (st' := [_, _, _, _, _, _, _]) rfl rfl ?_
    refine jx_T.step (pc' := 96) (st' := [_, _, _, _, _, _, _, _]) rfl rfl ?_
    refine jx_T.step (pc' := 98) (st' := [_, _, _, _, _, _, _, _, _]) rfl rfl ?_
    refine jx_T.step (pc' := 100) (st' := [_, _, _, _, _, _, _, _, _, _]) rfl rfl ?_
    refine cl.p7V rfl (by decide) rfl (Nat.le_of_ble_eq_true rfl) (Nat.le_of_ble_eq_true rfl) (c) ?_
    refine cl.v1I (hc_fix 1 (by decide) (cw_c1 _)) rfl (by decide) rfl ⟨Nat.le_of_ble_eq_true rfl, rfl⟩ (Nat.le_of_ble_eq_true rfl) (c3) ?_
    exact jx_T.ret rfl rfl
  · rw [rf_of z] at c
    refine cl.bc rfl (jx_br_le _ _) (fun _ => ?_) (fun zq => absurd (Int32.not_lt.mp z) zq)
    refine jx_T.step (pc' := 93) (st' := [_, _, _, _, _]) rfl rfl ?_
    refine jx_T.step (pc' := 94) (st' := [_, _, _, _, _, _]) rfl rfl ?_
    refine jx_T.step (pc' := 95) (st' := [_, _, _, _, _, _, _]) rfl rfl ?_
    refine jx_T.step (pc' := 96) (st' := [_, _, _, _, _, _, _, _]) rfl rfl ?_
    refine jx_T.step (pc' := 98) (st' := [_, _, _, _, _, _, _, _, _]) rfl rfl ?_
    refine jx_T.step (pc' := 100) (st' := [_, _, _, _, _, _, _, _, _, _]) rfl rfl ?_
    refine cl.p7V rfl (by decide) rfl (Nat.le_of_ble_eq_true rfl) (Nat.le_of_ble_eq_true rfl) (c) ?_
    refine cl.v1I (hc_fix 1 (by decide) (cw_c1 _)) rfl (by decide) rfl ⟨Nat.le_of_ble_eq_true rfl, rfl⟩ (Nat.le_of_ble_eq_true rfl) (c3) ?_
    exact jx_T.ret rfl rfl
end
