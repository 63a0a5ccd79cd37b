/-! the works: views stay when more is made; act, gap -/
def ge (g g2 : Nat → Option jx_E) : Prop := ∀ a e, g a = some e → g2 a = some e
theorem ge.rf {g : Nat → Option jx_E} : ge g g := fun _ _ h => h
theorem ge.tr {g g2 g3 : Nat → Option jx_E} (a : ge g g2) (b : ge g2 g3) : ge g g3 := fun q e h => b q e (a q e h)
theorem ge.up {g : Nat → Option jx_E} {a : Nat} {e : jx_E} (h : g a = none) : ge g (jx_up g a e) := fun q f hq => by
  unfold jx_up
  rw [if_neg (fun z => by rw [z, h] at hq; exact absurd hq (by simp))]
  exact hq
section
variable {g g2 : Nat → Option jx_E}
theorem im_str.ge {a : Nat} {S : sv} (u : ge g g2) (h : im_str g a S) : im_str g2 a S := by
  obtain ⟨ad, af, h1, h2, h3⟩ := h
  exact ⟨ad, af, ⟨h1.1, u _ _ h1.2⟩, ⟨h2.1, u _ _ h2.2⟩, ⟨h3.1, u _ _ h3.2⟩⟩
theorem im_sh.ge {a : Nat} {X : shv} (u : ge g g2) (h : im_sh g a X) : im_sh g2 a X := by
  obtain ⟨b, h1, h2⟩ := h
  exact ⟨b, ⟨h1.1, u _ _ h1.2⟩, ⟨h2.1, u _ _ h2.2⟩⟩
theorem im_net.ge {a : Nat} {X : nev} (u : ge g g2) (h : im_net g a X) : im_net g2 a X := by
  obtain ⟨b, c, d, h1, h2, h3, h4⟩ := h
  exact ⟨b, c, d, ⟨h1.1, u _ _ h1.2⟩, ⟨h2.1, u _ _ h2.2⟩, ⟨h3.1, u _ _ h3.2⟩, ⟨h4.1, u _ _ h4.2⟩⟩
theorem im_sta.ge {a : Nat} {T : tv} (u : ge g g2) (h : im_sta g a T) : im_sta g2 a T := by
  obtain ⟨s1, s2, s3, s4, f1, f2, f3, h1, h2, h3, h4, h5, h6, h7, h8⟩ := h
  refine ⟨s1, s2, s3, s4, f1, f2, f3, ⟨h1.1, u _ _ h1.2⟩, ⟨h2.1, u _ _ h2.2⟩, fun i hi => ?_, ⟨h4.1, u _ _ h4.2⟩, fun k hk => ?_, ⟨h6.1, u _ _ h6.2⟩, fun k hk => ?_, ⟨h8.1, u _ _ h8.2⟩⟩
  · obtain ⟨b, q1, q2⟩ := h3 i hi
    exact ⟨b, q1, q2.ge u⟩
  · rcases h5 k hk with q | ⟨X, b, q1, q2, q3⟩
    · exact Or.inl q
    · exact Or.inr ⟨X, b, q1, q2, q3.ge u⟩
  · obtain ⟨b, q1, q2⟩ := h7 k hk
    exact ⟨b, q1, q2.ge u⟩
end
section
variable {W : cw} {g : Nat → Option jx_E} {x : Nat} {T : tv} {nx s : Nat}
theorem kc_withGap (hn : 35 ≤ nx) (hf : g nx = none) (im : im_sta g x T) (gp : Int32) : ∃ g2, jx_T 73 0 (jx_ent 73 [.ref x, .int gp]) [] (hc W g nx s) (some (.ref nx)) (hc W g2 (nx + 1) (s + 6)) ∧ ge g g2 ∧ im_sta g2 nx (gp, T.2) ∧ ∀ a, nx + 1 ≤ a → g2 a = g a := by
  obtain ⟨s1, s2, s3, s4, f1, f2, f3, h1, h2, h3, h4, h5, h6, h7, h8⟩ := im
  have u : ∀ e, ge g (jx_up g nx e) := fun e => ge.up hf
  have im0 : im_sta g x T := ⟨s1, s2, s3, s4, f1, f2, f3, h1, h2, h3, h4, h5, h6, h7, h8⟩
  refine ⟨jx_up g nx (.inr (9, [.int gp, .int (nI T.2.1), .ref s1, .ref s2, .ref s3, .ref s4])), ?_, u _, ?_, fun a ha => jx_up_ne (by omega)⟩
  · have h1' : 35 ≤ x ∧ jx_up g nx (.inr (9, jx_dfl.getD 9 [])) x = some (.inr (9, [.int T.1, .int (nI T.2.1), .ref s1, .ref s2, .ref s3, .ref s4])) := ⟨h1.1, u _ _ _ h1.2⟩
    have ci := kc_initState (W := W) (g := jx_up g nx (.inr (9, jx_dfl.getD 9 []))) (nx := nx + 1) (s := s + 6) hn jx_up_eq gp (nI T.2.1) s1 s2 s3 s4
    rw [jx_up_up] at ci
    show jx_T 73 0 [.ref x, .int gp] [] _ _ _
    refine cl.newo hn rfl ?_
    refine jx_T.step (pc' := 4) (st' := [_, _]) rfl rfl ?_
    refine jx_T.step (pc' := 5) (st' := [_, _, _]) rfl rfl ?_
    refine jx_T.step (pc' := 6) (st' := [_, _, _, _]) rfl rfl ?_
    refine cl.geti (h1').1 (h1').2 rfl rfl ?_
    refine jx_T.step (pc' := 10) (st' := [_, _, _, _, _]) rfl rfl ?_
    refine cl.geti (h1').1 (h1').2 rfl rfl ?_
    refine jx_T.step (pc' := 14) (st' := [_, _, _, _, _, _]) rfl rfl ?_
    refine cl.geti (h1').1 (h1').2 rfl rfl ?_
    refine jx_T.step (pc' := 18) (st' := [_, _, _, _, _, _, _]) rfl rfl ?_
    refine cl.geti (h1').1 (h1').2 rfl rfl ?_
    refine jx_T.step (pc' := 22) (st' := [_, _, _, _, _, _, _, _]) rfl rfl ?_
    refine cl.geti (h1').1 (h1').2 rfl rfl ?_
    refine cl.p6V rfl (by decide) rfl (Nat.le_of_ble_eq_true rfl) (Nat.le_of_ble_eq_true rfl) (ci) ?_
    exact jx_T.ret rfl rfl
  · obtain ⟨t1, t2, t3, t4, e1, e2, e3, k1, k2, k3, k4, k5, k6, k7, k8⟩ := im_sta.ge (u (.inr (9, [.int gp, .int (nI T.2.1), .ref s1, .ref s2, .ref s3, .ref s4]))) im0
    have e := k1.2
    rw [u _ _ _ h1.2] at e
    have e' := Option.some.inj e
    simp only [Sum.inr.injEq, Prod.mk.injEq, List.cons.injEq, Value.ref.injEq, true_and, and_true] at e'
    obtain ⟨r1, r2, r3, r4⟩ := e'
    subst r1
    subst r2
    subst r3
    subst r4
    exact ⟨s1, s2, s3, s4, e1, e2, e3, ⟨hn, jx_up_eq⟩, k2, k3, k4, k5, k6, k7, k8⟩
/-- the ring with one state more -/
def kw_act (W : cw) (B D y : Nat) : cw := if D < 200 then cw_P (cw_I (cw_I W 1 2 (nI (D + 1))) 1 3 0) (va_up W.2.2.2.2.1 ((B + (D + 1)) % 201) (some y)) else cw_P (cw_I (cw_I W 1 1 (nI ((B + 1) % 201))) 1 3 0) (va_up W.2.2.2.2.1 (((B + 1) % 201 + D) % 201) (some y))
theorem kc_act (B D : Nat) (hB : B < 201) (hD : D ≤ 200) (e1 : W.2.2.1 1 1 = nI B) (e2 : W.2.2.1 1 2 = nI D) {y : Nat} {fs : List Value} (hy : 35 ≤ y ∧ g y = some (.inr (9, fs))) : jx_T 92 0 (jx_ent 92 [.ref 1, .ref y]) [] (hc W g nx s) (some (.int 0)) (hc (kw_act W B D y) g nx s) := by
  show jx_T 92 0 [.ref 1, .ref y] [] _ _ _
  unfold kw_act
  refine jx_T.step (pc' := 1) (st' := [_]) rfl rfl ?_
  refine cl.get 1 (by decide) rfl (cw_c1 _) rfl ?_
  rw [e2]
  refine jx_T.step (pc' := 7) (st' := [_, _]) rfl rfl ?_
  rw [rf_lit 200]
  by_cases z : D < 200
  · rw [if_pos z]
    have a1 : ∀ p, (cw_I (cw_I W 1 2 p) 1 3 0).2.2.1 1 1 = nI B := fun _ => e1
    have a2 : ∀ p, (cw_I (cw_I W 1 2 p) 1 3 0).2.2.1 1 2 = p := fun _ => rfl
    refine cl.bc rfl (jx_br_ge _ _) (fun zq => absurd zq (nI_ge z (by omega))) (fun _ => ?_)
    refine jx_T.step (pc' := 11) (st' := [_]) rfl rfl ?_
    refine jx_T.step (pc' := 12) (st' := [_, _]) rfl rfl ?_
    refine cl.get 1 (by decide) rfl (cw_c1 _) rfl ?_
    rw [e2]
    refine jx_T.step (pc' := 16) (st' := [_, _, _]) rfl rfl ?_
    refine jx_T.step (pc' := 17) (st' := [_, _]) rfl rfl ?_
    rw [nI_1]
    refine cl.put 1 (by decide) rfl (cw_c1 _) (Nat.le_of_ble_eq_true rfl) rfl (cw_f1_2 _ _) ?_
    refine jx_T.step (pc' := 37) (st' := []) rfl rfl ?_
    refine jx_T.step (pc' := 38) (st' := [_]) rfl rfl ?_
    refine jx_T.step (pc' := 39) (st' := [_, _]) rfl rfl ?_
    refine cl.put 1 (by decide) rfl (cw_c1 _) (Nat.le_of_ble_eq_true rfl) rfl (cw_f1_3 _ _) ?_
    refine jx_T.step (pc' := 43) (st' := [_]) rfl rfl ?_
    refine cl.get 1 (by decide) rfl (cw_c1 _) rfl ?_
    refine jx_T.step (pc' := 47) (st' := [_, _]) rfl rfl ?_
    refine cl.get 1 (by decide) rfl (cw_c1 _) rfl ?_
    rw [a1]
    refine jx_T.step (pc' := 51) (st' := [_, _, _]) rfl rfl ?_
    refine cl.get 1 (by decide) rfl (cw_c1 _) rfl ?_
    rw [a2]
    refine jx_T.step (pc' := 55) (st' := [_, _]) rfl rfl ?_
    refine jx_T.step (pc' := 58) (st' := [_, _, _]) rfl rfl ?_
    refine cl.irem rfl (by decide) ?_
    rw [nI_add, rf_lit 201, pk_rem (by omega) (by decide) (by decide)]
    refine jx_T.step (pc' := 60) (st' := [_, _, _]) rfl rfl ?_
    refine cl.aastR (hy).1 (hy).2 rfl (rf_ix (by omega) (by decide)) ?_
    rw [nI_clamp (by omega)]
    refine jx_T.step (pc' := 62) (st' := [_]) rfl rfl ?_
    exact jx_T.ret rfl rfl
  · rw [if_neg z]
    have a1 : ∀ p, (cw_I (cw_I W 1 1 p) 1 3 0).2.2.1 1 1 = p := fun _ => rfl
    have a2 : ∀ p, (cw_I (cw_I W 1 1 p) 1 3 0).2.2.1 1 2 = nI D := fun _ => e2
    refine cl.bc rfl (jx_br_ge _ _) (fun _ => ?_) (fun zq => absurd (nI_le (by omega) (by omega)) zq)
    refine jx_T.step (pc' := 24) (st' := [_]) rfl rfl ?_
    refine jx_T.step (pc' := 25) (st' := [_, _]) rfl rfl ?_
    refine cl.get 1 (by decide) rfl (cw_c1 _) rfl ?_
    rw [e1]
    refine jx_T.step (pc' := 29) (st' := [_, _, _]) rfl rfl ?_
    refine jx_T.step (pc' := 30) (st' := [_, _]) rfl rfl ?_
    refine jx_T.step (pc' := 33) (st' := [_, _, _]) rfl rfl ?_
    refine cl.irem rfl (by decide) ?_
    rw [nI_1, rf_lit 201, pk_rem (by omega) (by decide) (by decide)]
    refine cl.put 1 (by decide) rfl (cw_c1 _) (Nat.le_of_ble_eq_true rfl) rfl (cw_f1_1 _ _) ?_
    refine jx_T.step (pc' := 38) (st' := [_]) rfl rfl ?_
    refine jx_T.step (pc' := 39) (st' := [_, _]) rfl rfl ?_
    refine cl.put 1 (by decide) rfl (cw_c1 _) (Nat.le_of_ble_eq_true rfl) rfl (cw_f1_3 _ _) ?_
    refine jx_T.step (pc' := 43) (st' := [_]) rfl rfl ?_
    refine cl.get 1 (by decide) rfl (cw_c1 _) rfl ?_
    refine jx_T.step (pc' := 47) (st' := [_, _]) rfl rfl ?_
    refine cl.get 1 (by decide) rfl (cw_c1 _) rfl ?_
    rw [a1]
    refine jx_T.step (pc' := 51) (st' := [_, _, _]) rfl rfl ?_
    refine cl.get 1 (by decide) rfl (cw_c1 _) rfl ?_
    rw [a2]
    refine jx_T.step (pc' := 55) (st' := [_, _]) rfl rfl ?_
    refine jx_T.step (pc' := 58) (st' := [_, _, _]) rfl rfl ?_
    refine cl.irem rfl (by decide) ?_
    rw [nI_add, rf_lit 201, pk_rem (by omega) (by decide) (by decide)]
    refine jx_T.step (pc' := 60) (st' := [_, _, _]) rfl rfl ?_
    refine cl.aastR (hy).1 (hy).2 rfl (rf_ix (by omega) (by decide)) ?_
    rw [nI_clamp (by omega)]
    refine jx_T.step (pc' := 62) (st' := [_]) rfl rfl ?_
    exact jx_T.ret rfl rfl
end
