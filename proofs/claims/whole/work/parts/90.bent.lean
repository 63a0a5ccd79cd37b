/-! the works: bent -/
section
variable {W : cw} {g : Nat → Option jx_E} {B D x : Nat} {T : tv} {nx s : Nat}
theorem kc_bent_in (n : cl_now W g x T) (w hot from_ sh sp : Int32) {v : Option Value} {h2 : jx_H} (k : jx_T 101 31 [.ref 1, .int w, .int hot, .int from_, .int sh, .int sp, .int (kn_st T.2.1 (rf_o ((0 ≤ w.toInt ∧ w.toInt ≤ 2) ∧ (0 ≤ sh.toInt ∧ sh.toInt ≤ 7)))), .retAddr 0] [] (hc W g nx s) v h2) : jx_T 101 0 (jx_ent 101 [.ref 1, .int w, .int hot, .int from_, .int sh, .int sp]) [] (hc W g nx s) v h2 := by
  show jx_T 101 0 [.ref 1, .int w, .int hot, .int from_, .int sh, .int sp, .retAddr 0, .retAddr 0] [] _ _ _
  refine jx_T.step (pc' := 1) (st' := [_]) rfl rfl ?_
  refine jx_T.step (pc' := 2) (st' := [_, _]) rfl rfl ?_
  refine jx_T.step (pc' := 3) (st' := [_, _, _]) rfl rfl ?_
  refine jx_T.step (pc' := 4) (st' := [_, _, _, _]) rfl rfl ?_
  refine cl.s3I rfl (by decide) rfl (Nat.le_of_ble_eq_true rfl) (Nat.le_of_ble_eq_true rfl) (kc_within _ _ _ _) ?_
  refine cl.br rfl (jx_br_eq _ _) (fun z => ?_) (fun z => ?_)
  · have z1 := (rf_o_0 _).mp z
    rw [rf_of (P := (0 ≤ w.toInt ∧ w.toInt ≤ 2) ∧ (0 ≤ sh.toInt ∧ sh.toInt ≤ 7)) (fun q => z1 q.1)] at k
    refine jx_T.step (pc' := 26) (st' := [_, _]) rfl rfl ?_
    refine cl.v1I (hc_fix 1 (by decide) (cw_c1 _)) rfl (by decide) rfl ⟨Nat.le_of_ble_eq_true rfl, rfl⟩ (Nat.le_of_ble_eq_true rfl) (kc_newcomer n _) ?_
    refine jx_T.step (pc' := 31) (ls' := [_, _, _, _, _, _, _, _]) (st' := []) rfl rfl ?_
    exact k
  · have z1 := Decidable.not_not.mp (fun y => z ((rf_o_0 _).mpr y))
    refine jx_T.step (pc' := 12) (st' := [_, _]) rfl rfl ?_
    refine jx_T.step (pc' := 13) (st' := [_, _, _]) rfl rfl ?_
    refine jx_T.step (pc' := 15) (st' := [_, _, _, _]) rfl rfl ?_
    refine cl.s3I rfl (by decide) rfl (Nat.le_of_ble_eq_true rfl) (Nat.le_of_ble_eq_true rfl) (kc_within _ _ _ _) ?_
    refine cl.br rfl (jx_br_eq _ _) (fun z => ?_) (fun z => ?_)
    · have z2 := (rf_o_0 _).mp z
      rw [rf_of (P := (0 ≤ w.toInt ∧ w.toInt ≤ 2) ∧ (0 ≤ sh.toInt ∧ sh.toInt ≤ 7)) (fun q => z2 q.2)] at k
      refine jx_T.step (pc' := 26) (st' := [_, _]) rfl rfl ?_
      refine cl.v1I (hc_fix 1 (by decide) (cw_c1 _)) rfl (by decide) rfl ⟨Nat.le_of_ble_eq_true rfl, rfl⟩ (Nat.le_of_ble_eq_true rfl) (kc_newcomer n _) ?_
      refine jx_T.step (pc' := 31) (ls' := [_, _, _, _, _, _, _, _]) (st' := []) rfl rfl ?_
      exact k
    · have z2 := Decidable.not_not.mp (fun y => z ((rf_o_0 _).mpr y))
      rw [rf_ot (P := (0 ≤ w.toInt ∧ w.toInt ≤ 2) ∧ (0 ≤ sh.toInt ∧ sh.toInt ≤ 7)) ⟨z1, z2⟩] at k
      refine jx_T.step (pc' := 22) (st' := [_, _]) rfl rfl ?_
      refine jx_T.step (pc' := 26) (st' := [_, _]) rfl rfl ?_
      refine cl.v1I (hc_fix 1 (by decide) (cw_c1 _)) rfl (by decide) rfl ⟨Nat.le_of_ble_eq_true rfl, rfl⟩ (Nat.le_of_ble_eq_true rfl) (kc_newcomer n _) ?_
      refine jx_T.step (pc' := 31) (ls' := [_, _, _, _, _, _, _, _]) (st' := []) rfl rfl ?_
      exact k
theorem kc_bent_12 (n : cl_now W g x T) (w hot from_ sh sp : Int32) (hb : ¬ kn_st T.2.1 (rf_o ((0 ≤ w.toInt ∧ w.toInt ≤ 2) ∧ (0 ≤ sh.toInt ∧ sh.toInt ≤ 7))) = 0) : jx_T 101 0 (jx_ent 101 [.ref 1, .int w, .int hot, .int from_, .int sh, .int sp]) [] (hc W g nx s) (some (.int (kn_st T.2.1 (rf_o ((0 ≤ w.toInt ∧ w.toInt ≤ 2) ∧ (0 ≤ sh.toInt ∧ sh.toInt ≤ 7)))))) (hc W g nx s) := by
  refine kc_bent_in n w hot from_ sh sp ?_
  refine jx_T.step (pc' := 33) (st' := [_]) rfl rfl ?_
  refine cl.br rfl (jx_br_eq _ _) (fun zq => absurd zq (hb)) (fun _ => ?_)
  refine jx_T.step (pc' := 38) (st' := [_]) rfl rfl ?_
  exact jx_T.ret rfl rfl
theorem kc_bent_3 (n : cl_now W g x T) (w hot from_ sh sp : Int32) (hM : T.2.1 < 12) (hw : (0 ≤ w.toInt ∧ w.toInt ≤ 2) ∧ (0 ≤ sh.toInt ∧ sh.toInt ≤ 7)) (hb : ¬ ((0 ≤ from_.toInt ∧ from_.toInt ≤ 2000) ∧ (1 ≤ sp.toInt ∧ sp.toInt ≤ 8))) : jx_T 101 0 (jx_ent 101 [.ref 1, .int w, .int hot, .int from_, .int sh, .int sp]) [] (hc W g nx s) (some (.int 3)) (hc W g nx s) := by
  refine kc_bent_in n w hot from_ sh sp ?_
  refine jx_T.step (pc' := 33) (st' := [_]) rfl rfl ?_
  refine cl.br rfl (jx_br_eq _ _) (fun _ => ?_) (fun zq => absurd (kn_st_0 hM hw) zq)
  refine jx_T.step (pc' := 40) (st' := [_]) rfl rfl ?_
  refine cl.s1I rfl (by decide) rfl (Nat.le_of_ble_eq_true rfl) (Nat.le_of_ble_eq_true rfl) (kc_isWarmth _ _) ?_
  refine cl.br rfl (jx_br_eq _ _) (fun z => ?_) (fun z => ?_)
  · refine jx_T.step (pc' := 58) (st' := [_]) rfl rfl ?_
    exact jx_T.ret rfl rfl
  · have z1 := Decidable.not_not.mp (fun y => z ((rf_o_0 _).mpr y))
    refine jx_T.step (pc' := 48) (st' := [_]) rfl rfl ?_
    refine jx_T.step (pc' := 49) (st' := [_, _]) rfl rfl ?_
    refine jx_T.step (pc' := 51) (st' := [_, _, _]) rfl rfl ?_
    refine cl.s3I rfl (by decide) rfl (Nat.le_of_ble_eq_true rfl) (Nat.le_of_ble_eq_true rfl) (kc_within _ _ _ _) ?_
    refine cl.brn rfl (fun zq => absurd ((rf_o_0 _).mpr (fun t => hb ⟨z1, t⟩)) zq) (fun _ => ?_)
    refine jx_T.step (pc' := 58) (st' := [_]) rfl rfl ?_
    exact jx_T.ret rfl rfl
/-- behind the tests of what is told -/
theorem kc_bent_on (n : cl_now W g x T) {s1 s2 s3 s4 : Nat} {f2 : Nat → Option Nat} (p1 : 35 ≤ x ∧ g x = some (.inr (9, [.int T.1, .int (nI T.2.1), .ref s1, .ref s2, .ref s3, .ref s4]))) (p4 : 35 ≤ s2 ∧ g s2 = some (.inl (5, 8, .inr (.inr (.inr (.inr f2)))))) (w hot from_ : Int32) (sh p : Nat) (hM : T.2.1 < 12) (hw : 0 ≤ w.toInt ∧ w.toInt ≤ 2) (hs : sh < 8) (hfr : 0 ≤ from_.toInt ∧ from_.toInt ≤ 2000) (hp : 1 ≤ p ∧ p ≤ 8) {v : Option Value} {h2 : jx_H} (k : jx_T 101 69 [.ref 1, .int w, .int hot, .int from_, .int (nI sh), .int (nI p), .int (kn_st T.2.1 (rf_o ((0 ≤ w.toInt ∧ w.toInt ≤ 2) ∧ (0 ≤ (nI sh).toInt ∧ (nI sh).toInt ≤ 7)))), .retAddr 0] [va_rf (f2 sh)] (hc W g nx s) v h2) : jx_T 101 0 (jx_ent 101 [.ref 1, .int w, .int hot, .int from_, .int (nI sh), .int (nI p)]) [] (hc W g nx s) v h2 := by
  refine kc_bent_in n w hot from_ (nI sh) (nI p) ?_
  have cn := kc_now nx s n
  refine jx_T.step (pc' := 33) (st' := [_]) rfl rfl ?_
  refine cl.br rfl (jx_br_eq _ _) (fun _ => ?_) (fun zq => absurd (kn_st_0 hM ⟨hw, rf_k8 hs⟩) zq)
  refine jx_T.step (pc' := 40) (st' := [_]) rfl rfl ?_
  refine cl.s1I rfl (by decide) rfl (Nat.le_of_ble_eq_true rfl) (Nat.le_of_ble_eq_true rfl) (kc_isWarmth _ _) ?_
  refine cl.br rfl (jx_br_eq _ _) (fun zq => absurd zq (fun q => (rf_o_0 _).mp q hfr)) (fun _ => ?_)
  refine jx_T.step (pc' := 48) (st' := [_]) rfl rfl ?_
  refine jx_T.step (pc' := 49) (st' := [_, _]) rfl rfl ?_
  refine jx_T.step (pc' := 51) (st' := [_, _, _]) rfl rfl ?_
  refine cl.s3I rfl (by decide) rfl (Nat.le_of_ble_eq_true rfl) (Nat.le_of_ble_eq_true rfl) (kc_within _ _ _ _) ?_
  refine cl.brn rfl (fun _ => ?_) (fun zq => absurd zq (fun y => (rf_o_0 _).mp y (by rw [nI_toInt (by omega)]; show (1 : Int) ≤ (p : Int) ∧ (p : Int) ≤ 8; omega)))
  refine jx_T.step (pc' := 60) (st' := [_]) rfl rfl ?_
  refine cl.v0I (hc_fix 1 (by decide) (cw_c1 _)) rfl (by decide) rfl ⟨Nat.le_of_ble_eq_true rfl, rfl⟩ (Nat.le_of_ble_eq_true rfl) (cn) ?_
  refine cl.geti (p1).1 (p1).2 rfl rfl ?_
  refine jx_T.step (pc' := 68) (st' := [_, _]) rfl rfl ?_
  refine cl.aaldi (p4).1 (p4).2 rfl (by decide) (rf_ix (by omega) (by decide)) ?_
  rw [nI_clamp (by omega)]
  exact k
theorem kc_bent_4 (n : cl_now W g x T) (w hot from_ : Int32) (sh p : Nat) (hM : T.2.1 < 12) (hw : 0 ≤ w.toInt ∧ w.toInt ≤ 2) (hs : sh < 8) (hfr : 0 ≤ from_.toInt ∧ from_.toInt ≤ 2000) (hp : 1 ≤ p ∧ p ≤ 8) (hX : T.2.2.2.1 sh = none) : jx_T 101 0 (jx_ent 101 [.ref 1, .int w, .int hot, .int from_, .int (nI sh), .int (nI p)]) [] (hc W g nx s) (some (.int 4)) (hc W g nx s) := by
  have n1 := n
  obtain ⟨s1, s2, s3, s4, f1, f2, f3, p1, p2, p3, p4, p5, -⟩ := n1.2.1
  have e2 : f2 sh = none := by
    rcases p5 sh hs with q | ⟨X, b, q1, -⟩
    · exact q.2
    · rw [hX] at q1
      exact absurd q1 (by simp)
  refine kc_bent_on n p1 p4 w hot from_ sh p hM hw hs hfr hp ?_
  rw [e2]
  refine jx_T.step (pc' := 71) (ls' := [_, _, _, _, _, _, _, _]) (st' := []) rfl rfl ?_
  refine jx_T.step (pc' := 73) (st' := [_]) rfl rfl ?_
  refine jx_T.step (pc' := 76) (st' := []) rfl rfl ?_
  refine jx_T.step (pc' := 77) (st' := [_]) rfl rfl ?_
  exact jx_T.ret rfl rfl
theorem kc_bent_x (n : cl_now W g x T) (w hot from_ : Int32) (sh p : Nat) (hM : T.2.1 < 12) (hw : 0 ≤ w.toInt ∧ w.toInt ≤ 2) (hs : sh < 8) (hfr : 0 ≤ from_.toInt ∧ from_.toInt ≤ 2000) (hp : 1 ≤ p ∧ p ≤ 8) {X : shv} (hX : T.2.2.2.1 sh = some X) (h16 : X.2.1 ≤ 16) (hb : bn_ok X.2.2 0 hot (min X.2.1 (2 * p)) 0 from_ = false) : jx_T 101 0 (jx_ent 101 [.ref 1, .int w, .int hot, .int from_, .int (nI sh), .int (nI p)]) [] (hc W g nx s) (some (.int 3)) (hc W g nx s) := by
  have n1 := n
  obtain ⟨s1, s2, s3, s4, f1, f2, f3, p1, p2, p3, p4, p5, -⟩ := n1.2.1
  obtain ⟨a, ea, ia⟩ := im_sta.sheet p5 hs hX
  have ct := kc_tells (W := W) (nx := nx) (s := s) ia h16 hot from_ p hp.2
  obtain ⟨ya, qa1, qa2⟩ := ia
  refine kc_bent_on n p1 p4 w hot from_ sh p hM hw hs hfr hp ?_
  rw [ea]
  refine jx_T.step (pc' := 71) (ls' := [_, _, _, _, _, _, _, _]) (st' := []) rfl rfl ?_
  refine jx_T.step (pc' := 73) (st' := [_]) rfl rfl ?_
  refine jx_T.step (pc' := 78) (st' := []) rfl rfl ?_
  refine jx_T.step (pc' := 80) (st' := [_]) rfl rfl ?_
  refine jx_T.step (pc' := 81) (st' := [_, _]) rfl rfl ?_
  refine jx_T.step (pc' := 82) (st' := [_, _, _]) rfl rfl ?_
  refine jx_T.step (pc' := 84) (st' := [_, _, _, _]) rfl rfl ?_
  refine cl.v3I (hc_imm (qa1).1 (qa1).2) rfl (by decide) rfl ⟨Nat.le_of_ble_eq_true rfl, rfl⟩ (Nat.le_of_ble_eq_true rfl) (ct) ?_
  refine cl.brn rfl (fun zq => absurd ((rf_o_0 _).mpr (by rw [hb]; simp)) zq) (fun _ => ?_)
  refine jx_T.step (pc' := 91) (st' := [_]) rfl rfl ?_
  exact jx_T.ret rfl rfl
theorem kc_bent_5 (n : cl_now W g x T) (w hot from_ : Int32) (sh p : Nat) (hM : T.2.1 < 12) (hw : 0 ≤ w.toInt ∧ w.toInt ≤ 2) (hs : sh < 8) (hfr : 0 ≤ from_.toInt ∧ from_.toInt ≤ 2000) (hp : 1 ≤ p ∧ p ≤ 8) {X : shv} (hX : T.2.2.2.1 sh = some X) (h16 : X.2.1 ≤ 16) (hb : bn_ok X.2.2 0 hot (min X.2.1 (2 * p)) 0 from_ = true) (hl : X.2.1 < 2 * p) : jx_T 101 0 (jx_ent 101 [.ref 1, .int w, .int hot, .int from_, .int (nI sh), .int (nI p)]) [] (hc W g nx s) (some (.int 5)) (hc W g nx s) := by
  have n1 := n
  obtain ⟨s1, s2, s3, s4, f1, f2, f3, p1, p2, p3, p4, p5, -⟩ := n1.2.1
  obtain ⟨a, ea, ia⟩ := im_sta.sheet p5 hs hX
  have ct := kc_tells (W := W) (nx := nx) (s := s) ia h16 hot from_ p hp.2
  obtain ⟨ya, qa1, qa2⟩ := ia
  refine kc_bent_on n p1 p4 w hot from_ sh p hM hw hs hfr hp ?_
  rw [ea]
  refine jx_T.step (pc' := 71) (ls' := [_, _, _, _, _, _, _, _]) (st' := []) rfl rfl ?_
  refine jx_T.step (pc' := 73) (st' := [_]) rfl rfl ?_
  refine jx_T.step (pc' := 78) (st' := []) rfl rfl ?_
  refine jx_T.step (pc' := 80) (st' := [_]) rfl rfl ?_
  refine jx_T.step (pc' := 81) (st' := [_, _]) rfl rfl ?_
  refine jx_T.step (pc' := 82) (st' := [_, _, _]) rfl rfl ?_
  refine jx_T.step (pc' := 84) (st' := [_, _, _, _]) rfl rfl ?_
  refine cl.v3I (hc_imm (qa1).1 (qa1).2) rfl (by decide) rfl ⟨Nat.le_of_ble_eq_true rfl, rfl⟩ (Nat.le_of_ble_eq_true rfl) (ct) ?_
  refine cl.brn rfl (fun _ => ?_) (fun zq => absurd zq (fun y => (rf_o_0 _).mp y hb))
  refine jx_T.step (pc' := 93) (st' := [_]) rfl rfl ?_
  refine jx_T.step (pc' := 95) (st' := [_, _]) rfl rfl ?_
  refine jx_T.step (pc' := 96) (st' := [_]) rfl rfl ?_
  refine jx_T.step (pc' := 98) (st' := [_, _]) rfl rfl ?_
  refine cl.geti (qa1).1 (qa1).2 rfl rfl ?_
  refine cl.aleni (qa2).1 (qa2).2 rfl (Or.inl (by decide)) ?_
  rw [rf_lit 2, pk_mul]
  refine cl.bc rfl (jx_br_le _ _) (fun zq => absurd zq (nI_ge (by omega) (by omega))) (fun _ => ?_)
  refine jx_T.step (pc' := 106) (st' := [_]) rfl rfl ?_
  exact jx_T.ret rfl rfl
theorem kc_bent (hn : 35 ≤ nx) (hf : ∀ a, nx ≤ a → g a = none) (h : kn_at W g B D x T) (w hot from_ : Int32) (hh : hot = 0 ∨ hot = 1) (sh p : Nat) (hM : T.2.1 < 12) (hw : 0 ≤ w.toInt ∧ w.toInt ≤ 2) (hs : sh < 8) (hfr : 0 ≤ from_.toInt ∧ from_.toInt ≤ 2000) (hp : 1 ≤ p ∧ p ≤ 8) {X : shv} (hX : T.2.2.2.1 sh = some X) (h16 : X.2.1 ≤ 16) (hb : bn_ok X.2.2 0 hot (min X.2.1 (2 * p)) 0 from_ = true) (hl : 2 * p ≤ X.2.1) : ∃ g2, jx_T 101 0 (jx_ent 101 [.ref 1, .int w, .int hot, .int from_, .int (nI sh), .int (nI p)]) [] (hc W g nx s) (some (.int 0)) (hc (kw_act W B D (nx + 6)) g2 (nx + 7) (s + 9 + p + p + p + p + 18)) ∧ ge g g2 ∧ (∀ a, nx + 7 ≤ a → g2 a = none) ∧ kn_at (kw_act W B D (nx + 6)) g2 (kB B D) (kD D) (nx + 6) (T.1, T.2.1 + 1, (fun j => if j = T.2.1 then sn_S 2 hot w from_ 0 p (ev_f X.2.2 0 p) (ev_f X.2.2 1 p) else T.2.2.1 j), T.2.2.2.1, T.2.2.2.2.1, T.2.2.2.2.2) := by
  have l1 : 35 ≤ nx + 1 := Nat.le_trans hn (Nat.le_add_right _ _)
  have l2 : 35 ≤ nx + 2 := Nat.le_trans hn (Nat.le_add_right _ _)
  have u1 : ge g (jx_up g nx (.inr (10, jx_dfl.getD 10 []))) := ge.up (hf nx (Nat.le_refl _))
  have u2 : ge g (jx_up (jx_up g nx (.inr (10, jx_dfl.getD 10 []))) (nx + 1) (.inl (0, p, .inl (ev_f X.2.2 0 p)))) := u1.tr (ge.up ((jx_up_ne (by omega)).trans (hf _ (by omega))))
  have u : ge g (jx_up (jx_up (jx_up g nx (.inr (10, jx_dfl.getD 10 []))) (nx + 1) (.inl (0, p, .inl (ev_f X.2.2 0 p)))) (nx + 2) (.inl (0, p, .inl (ev_f X.2.2 1 p)))) := u2.tr (ge.up ((jx_up_ne (by omega)).trans ((jx_up_ne (by omega)).trans (hf _ (by omega)))))
  obtain ⟨g2, g3, c, c3, r⟩ := kc_born h (ny := nx + 3) (sy := s + 9 + p + p) u (Nat.le_trans hn (Nat.le_add_right _ _)) (fun b hb => (jx_up_ne (by omega)).trans ((jx_up_ne (by omega)).trans ((jx_up_ne (by omega)).trans (hf b (by omega))))) (a := nx) (p := nx + 1) (q := nx + 2) (n := p) (fd := ev_f X.2.2 0 p) (ff := ev_f X.2.2 1 p) (hf nx (Nat.le_refl _)) ⟨hn, (jx_up_ne (by omega)).trans ((jx_up_ne (by omega)).trans jx_up_eq)⟩ ⟨l1, (jx_up_ne (by omega)).trans jx_up_eq⟩ ⟨l2, jx_up_eq⟩ hp.2 2 hot w from_ 0 hh hM
  refine ⟨g3, ?_, r⟩
  have n := h.n
  have n1 := n
  obtain ⟨s1, s2, s3, s4, f1, f2, f3, p1, p2, p3, p4, p5, -⟩ := n1.2.1
  obtain ⟨a, ea, ia⟩ := im_sta.sheet p5 hs hX
  have ct := kc_tells (W := W) (nx := nx) (s := s) ia h16 hot from_ p hp.2
  have ce1 := kc_every (W := W) (s := s + 9) l1 (fun b hb => (jx_up_ne (by omega)).trans (hf b (by omega))) (ia.ge u1) h16 0 p (by omega) hp.2 hl
  have ce2 := kc_every (W := W) (s := s + 9 + p) l2 (fun b hb => (jx_up_ne (by omega)).trans ((jx_up_ne (by omega)).trans (hf b (by omega)))) (ia.ge u2) h16 1 p (by omega) hp.2 hl
  have ia1 := ia.ge u1
  have ia2 := ia.ge u2
  obtain ⟨ya, qa1, qa2⟩ := ia
  obtain ⟨yb, qb1, -⟩ := ia1
  obtain ⟨yc, qc1, -⟩ := ia2
  refine kc_bent_on n p1 p4 w hot from_ sh p hM hw hs hfr hp ?_
  rw [ea]
  refine jx_T.step (pc' := 71) (ls' := [_, _, _, _, _, _, _, _]) (st' := []) rfl rfl ?_
  refine jx_T.step (pc' := 73) (st' := [_]) rfl rfl ?_
  refine jx_T.step (pc' := 78) (st' := []) rfl rfl ?_
  refine jx_T.step (pc' := 80) (st' := [_]) rfl rfl ?_
  refine jx_T.step (pc' := 81) (st' := [_, _]) rfl rfl ?_
  refine jx_T.step (pc' := 82) (st' := [_, _, _]) rfl rfl ?_
  refine jx_T.step (pc' := 84) (st' := [_, _, _, _]) rfl rfl ?_
  refine cl.v3I (hc_imm (qa1).1 (qa1).2) rfl (by decide) rfl ⟨Nat.le_of_ble_eq_true rfl, rfl⟩ (Nat.le_of_ble_eq_true rfl) (ct) ?_
  refine cl.brn rfl (fun _ => ?_) (fun zq => absurd zq (fun y => (rf_o_0 _).mp y hb))
  refine jx_T.step (pc' := 93) (st' := [_]) rfl rfl ?_
  refine jx_T.step (pc' := 95) (st' := [_, _]) rfl rfl ?_
  refine jx_T.step (pc' := 96) (st' := [_]) rfl rfl ?_
  refine jx_T.step (pc' := 98) (st' := [_, _]) rfl rfl ?_
  refine cl.geti (qa1).1 (qa1).2 rfl rfl ?_
  refine cl.aleni (qa2).1 (qa2).2 rfl (Or.inl (by decide)) ?_
  rw [rf_lit 2, pk_mul]
  refine cl.bc rfl (jx_br_le _ _) (fun _ => ?_) (fun zq => absurd (nI_le hl (by omega)) zq)
  refine jx_T.step (pc' := 108) (st' := [_]) rfl rfl ?_
  refine cl.newo hn rfl ?_
  refine jx_T.step (pc' := 112) (st' := [_, _, _]) rfl rfl ?_
  refine jx_T.step (pc' := 113) (st' := [_, _, _, _]) rfl rfl ?_
  refine jx_T.step (pc' := 114) (st' := [_, _, _, _, _]) rfl rfl ?_
  refine jx_T.step (pc' := 115) (st' := [_, _, _, _, _, _]) rfl rfl ?_
  refine jx_T.step (pc' := 116) (st' := [_, _, _, _, _, _, _]) rfl rfl ?_
  refine jx_T.step (pc' := 117) (st' := [_, _, _, _, _, _, _, _]) rfl rfl ?_
  refine jx_T.step (pc' := 119) (st' := [_, _, _, _, _, _, _, _, _]) rfl rfl ?_
  refine jx_T.step (pc' := 120) (st' := [_, _, _, _, _, _, _, _, _, _]) rfl rfl ?_
  refine jx_T.step (pc' := 122) (st' := [_, _, _, _, _, _, _, _, _, _, _]) rfl rfl ?_
  refine cl.v2I (hc_imm (qb1).1 (qb1).2) rfl (by decide) rfl ⟨Nat.le_of_ble_eq_true rfl, rfl⟩ (Nat.le_of_ble_eq_true rfl) (ce1) ?_
  refine jx_T.step (pc' := 127) (st' := [_, _, _, _, _, _, _, _, _, _]) rfl rfl ?_
  refine jx_T.step (pc' := 128) (st' := [_, _, _, _, _, _, _, _, _, _, _]) rfl rfl ?_
  refine jx_T.step (pc' := 130) (st' := [_, _, _, _, _, _, _, _, _, _, _, _]) rfl rfl ?_
  refine cl.v2I9 (hc_imm (qc1).1 (qc1).2) rfl (by decide) rfl rfl ⟨Nat.le_of_ble_eq_true rfl, rfl⟩ (Nat.le_of_ble_eq_true rfl) (ce2) ?_
  refine cl.p7V rfl (by decide) rfl (Nat.le_of_ble_eq_true rfl) (Nat.le_of_ble_eq_true rfl) (c) ?_
  refine cl.v1I (hc_fix 1 (by decide) (cw_c1 _)) rfl (by decide) rfl ⟨Nat.le_of_ble_eq_true rfl, rfl⟩ (Nat.le_of_ble_eq_true rfl) (c3) ?_
  exact jx_T.ret rfl rfl
end
