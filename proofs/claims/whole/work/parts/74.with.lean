/-! the works: a sheet anew, a stream more -/
section
variable {W : cw} {g : Nat → Option jx_E} {x : Nat} {T : tv} {nx s : Nat}
theorem kc_withSheet (hn : 35 ≤ nx) (hf : ∀ a, nx ≤ a → g a = none) (im : im_sta g x T) (k : Nat) (hk : k < 8) {y : Nat} {X : shv} (iy : im_sh g y X) : ∃ g2, jx_T 71 0 (jx_ent 71 [.ref x, .int (nI k), .ref y]) [] (hc W g nx s) (some (.ref (nx + 1))) (hc W g2 (nx + 2) (s + 14)) ∧ ge g g2 ∧ im_sta g2 (nx + 1) (T.1, T.2.1, T.2.2.1, (fun j => if j = k then some X else T.2.2.2.1 j), T.2.2.2.2.1, T.2.2.2.2.2) ∧ ∀ a, nx + 2 ≤ a → g2 a = none := by
  obtain ⟨s1, s2, s3, s4, f1, f2, f3, h1, h2, h3, h4, h5, h6, h7, h8⟩ := im
  have fa := hf nx (Nat.le_refl _)
  have fb := hf (nx + 1) (by omega)
  have u1 : ∀ e, ge g (jx_up g nx e) := fun e => ge.up fa
  have u2 : ∀ e e2, ge (jx_up g nx e) (jx_up (jx_up g nx e) (nx + 1) e2) := fun e e2 => ge.up ((jx_up_ne (by omega)).trans fb)
  have iy0 := iy
  obtain ⟨y1, i1, -⟩ := iy
  refine ⟨jx_up (jx_up g nx (.inl (5, 8, .inr (.inr (.inr (.inr (va_up f2 k (some y)))))))) (nx + 1) (.inr (9, [.int T.1, .int (nI T.2.1), .ref s1, .ref nx, .ref s3, .ref s4])), ?_, (u1 _).tr (u2 _ _), ?_, fun a ha => (jx_up_ne (by omega)).trans ((jx_up_ne (by omega)).trans (hf a (by omega)))⟩
  · have na : 35 ≤ nx ∧ jx_up g nx (.inl (5, 8, .inr (.inr (.inr (.inr f2))))) nx = some (.inl (5, 8, .inr (.inr (.inr (.inr f2))))) := ⟨hn, jx_up_eq⟩
    have hx : 35 ≤ x ∧ jx_up (jx_up g nx (.inl (5, 8, .inr (.inr (.inr (.inr (va_up f2 k (some y)))))))) (nx + 1) (.inr (9, jx_dfl.getD 9 [])) x = some (.inr (9, [.int T.1, .int (nI T.2.1), .ref s1, .ref s2, .ref s3, .ref s4])) := ⟨h1.1, u2 _ _ _ _ (u1 _ _ _ h1.2)⟩
    have ci := kc_initState (W := W) (g := jx_up (jx_up g nx (.inl (5, 8, .inr (.inr (.inr (.inr (va_up f2 k (some y)))))))) (nx + 1) (.inr (9, jx_dfl.getD 9 []))) (nx := nx + 2) (s := s + 14) (a := nx + 1) (by omega) jx_up_eq T.1 (nI T.2.1) s1 nx s3 s4
    rw [jx_up_up] at ci
    show jx_T 71 0 [.ref x, .int (nI k), .ref y, .retAddr 0] [] _ _ _
    refine jx_T.step (pc' := 1) (st' := [_]) rfl rfl ?_
    refine cl.geti (h1).1 (h1).2 rfl rfl ?_
    refine cl.clnA hn (h4).1 (h4).2 rfl (Nat.le_of_ble_eq_true rfl) ?_
    refine cl.ccast (na).1 (na).2 rfl (by decide) ?_
    refine jx_T.step (pc' := 11) (ls' := [_, _, _, _]) (st' := []) rfl rfl ?_
    refine jx_T.step (pc' := 12) (st' := [_]) rfl rfl ?_
    refine cl.br rfl (jx_br_lt _ _) (fun zq => absurd zq (nI_pos (by omega))) (fun _ => ?_)
    refine jx_T.step (pc' := 16) (st' := [_]) rfl rfl ?_
    refine jx_T.step (pc' := 17) (st' := [_, _]) rfl rfl ?_
    refine cl.aleni (na).1 (na).2 rfl (Or.inl (by decide)) ?_
    refine cl.bc rfl (jx_br_ge _ _) (fun zq => absurd zq (nI_ge (by omega) (by decide))) (fun _ => ?_)
    refine jx_T.step (pc' := 22) (st' := [_]) rfl rfl ?_
    refine jx_T.step (pc' := 23) (st' := [_, _]) rfl rfl ?_
    refine jx_T.step (pc' := 24) (st' := [_, _, _]) rfl rfl ?_
    refine cl.aastn hn i1.1 (u1 _ _ _ i1.2) rfl (by decide) (rf_ix (by omega) (by decide)) ?_
    rw [nI_clamp (by omega)]
    refine cl.newo (by omega : 35 ≤ nx + 1) rfl ?_
    refine jx_T.step (pc' := 29) (st' := [_, _]) rfl rfl ?_
    refine jx_T.step (pc' := 30) (st' := [_, _, _]) rfl rfl ?_
    refine cl.geti (hx).1 (hx).2 rfl rfl ?_
    refine jx_T.step (pc' := 34) (st' := [_, _, _, _]) rfl rfl ?_
    refine cl.geti (hx).1 (hx).2 rfl rfl ?_
    refine jx_T.step (pc' := 38) (st' := [_, _, _, _, _]) rfl rfl ?_
    refine cl.geti (hx).1 (hx).2 rfl rfl ?_
    refine jx_T.step (pc' := 42) (st' := [_, _, _, _, _, _]) rfl rfl ?_
    refine jx_T.step (pc' := 43) (st' := [_, _, _, _, _, _, _]) rfl rfl ?_
    refine cl.geti (hx).1 (hx).2 rfl rfl ?_
    refine jx_T.step (pc' := 47) (st' := [_, _, _, _, _, _, _, _]) rfl rfl ?_
    refine cl.geti (hx).1 (hx).2 rfl rfl ?_
    refine cl.p6V rfl (by decide) rfl (Nat.le_of_ble_eq_true rfl) (Nat.le_of_ble_eq_true rfl) (ci) ?_
    exact jx_T.ret rfl rfl
  · have u := (u1 (.inl (5, 8, .inr (.inr (.inr (.inr (va_up f2 k (some y)))))))).tr (u2 _ (.inr (9, [.int T.1, .int (nI T.2.1), .ref s1, .ref nx, .ref s3, .ref s4])))
    refine ⟨s1, nx, s3, s4, f1, va_up f2 k (some y), f3, ⟨by omega, jx_up_eq⟩, ⟨h2.1, u _ _ h2.2⟩, fun i hi => ?_, ⟨hn, u2 _ _ _ _ jx_up_eq⟩, fun j hj => ?_, ⟨h6.1, u _ _ h6.2⟩, fun j hj => ?_, ⟨h8.1, u _ _ h8.2⟩⟩
    · obtain ⟨b, q1, q2⟩ := h3 i hi
      exact ⟨b, q1, q2.ge u⟩
    · show ((if j = k then some X else T.2.2.2.1 j) = none ∧ _) ∨ ∃ X2 b, (if j = k then some X else T.2.2.2.1 j) = some X2 ∧ _
      unfold va_up
      by_cases e : j = k
      · rw [if_pos e, if_pos e]
        exact Or.inr ⟨X, y, rfl, rfl, iy0.ge u⟩
      · rw [if_neg e, if_neg e]
        rcases h5 j hj with q | ⟨X, b, q1, q2, q3⟩
        · exact Or.inl q
        · exact Or.inr ⟨X, b, q1, q2, q3.ge u⟩
    · obtain ⟨b, q1, q2⟩ := h7 j hj
      exact ⟨b, q1, q2.ge u⟩
theorem kc_withSheetN (hn : 35 ≤ nx) (hf : ∀ a, nx ≤ a → g a = none) (im : im_sta g x T) (k : Nat) (hk : k < 8) : ∃ g2, jx_T 71 0 (jx_ent 71 [.ref x, .int (nI k), .null]) [] (hc W g nx s) (some (.ref (nx + 1))) (hc W g2 (nx + 2) (s + 14)) ∧ ge g g2 ∧ im_sta g2 (nx + 1) (T.1, T.2.1, T.2.2.1, (fun j => if j = k then none else T.2.2.2.1 j), T.2.2.2.2.1, T.2.2.2.2.2) ∧ ∀ a, nx + 2 ≤ a → g2 a = none := by
  obtain ⟨s1, s2, s3, s4, f1, f2, f3, h1, h2, h3, h4, h5, h6, h7, h8⟩ := im
  have fa := hf nx (Nat.le_refl _)
  have fb := hf (nx + 1) (by omega)
  have u1 : ∀ e, ge g (jx_up g nx e) := fun e => ge.up fa
  have u2 : ∀ e e2, ge (jx_up g nx e) (jx_up (jx_up g nx e) (nx + 1) e2) := fun e e2 => ge.up ((jx_up_ne (by omega)).trans fb)
  refine ⟨jx_up (jx_up g nx (.inl (5, 8, .inr (.inr (.inr (.inr (va_up f2 k none))))))) (nx + 1) (.inr (9, [.int T.1, .int (nI T.2.1), .ref s1, .ref nx, .ref s3, .ref s4])), ?_, (u1 _).tr (u2 _ _), ?_, fun a ha => (jx_up_ne (by omega)).trans ((jx_up_ne (by omega)).trans (hf a (by omega)))⟩
  · have na : 35 ≤ nx ∧ jx_up g nx (.inl (5, 8, .inr (.inr (.inr (.inr f2))))) nx = some (.inl (5, 8, .inr (.inr (.inr (.inr f2))))) := ⟨hn, jx_up_eq⟩
    have hx : 35 ≤ x ∧ jx_up (jx_up g nx (.inl (5, 8, .inr (.inr (.inr (.inr (va_up f2 k none))))))) (nx + 1) (.inr (9, jx_dfl.getD 9 [])) x = some (.inr (9, [.int T.1, .int (nI T.2.1), .ref s1, .ref s2, .ref s3, .ref s4])) := ⟨h1.1, u2 _ _ _ _ (u1 _ _ _ h1.2)⟩
    have ci := kc_initState (W := W) (g := jx_up (jx_up g nx (.inl (5, 8, .inr (.inr (.inr (.inr (va_up f2 k none))))))) (nx + 1) (.inr (9, jx_dfl.getD 9 []))) (nx := nx + 2) (s := s + 14) (a := nx + 1) (by omega) jx_up_eq T.1 (nI T.2.1) s1 nx s3 s4
    rw [jx_up_up] at ci
    show jx_T 71 0 [.ref x, .int (nI k), .null, .retAddr 0] [] _ _ _
    refine jx_T.step (pc' := 1) (st' := [_]) rfl rfl ?_
    refine cl.geti (h1).1 (h1).2 rfl rfl ?_
    refine cl.clnA hn (h4).1 (h4).2 rfl (Nat.le_of_ble_eq_true rfl) ?_
    refine cl.ccast (na).1 (na).2 rfl (by decide) ?_
    refine jx_T.step (pc' := 11) (ls' := [_, _, _, _]) (st' := []) rfl rfl ?_
    refine jx_T.step (pc' := 12) (st' := [_]) rfl rfl ?_
    refine cl.br rfl (jx_br_lt _ _) (fun zq => absurd zq (nI_pos (by omega))) (fun _ => ?_)
    refine jx_T.step (pc' := 16) (st' := [_]) rfl rfl ?_
    refine jx_T.step (pc' := 17) (st' := [_, _]) rfl rfl ?_
    refine cl.aleni (na).1 (na).2 rfl (Or.inl (by decide)) ?_
    refine cl.bc rfl (jx_br_ge _ _) (fun zq => absurd zq (nI_ge (by omega) (by decide))) (fun _ => ?_)
    refine jx_T.step (pc' := 22) (st' := [_]) rfl rfl ?_
    refine jx_T.step (pc' := 23) (st' := [_, _]) rfl rfl ?_
    refine jx_T.step (pc' := 24) (st' := [_, _, _]) rfl rfl ?_
    refine cl.aastnN hn rfl (by decide) (rf_ix (by omega) (by decide)) ?_
    rw [nI_clamp (by omega)]
    refine cl.newo (by omega : 35 ≤ nx + 1) rfl ?_
    refine jx_T.step (pc' := 29) (st' := [_, _]) rfl rfl ?_
    refine jx_T.step (pc' := 30) (st' := [_, _, _]) rfl rfl ?_
    refine cl.geti (hx).1 (hx).2 rfl rfl ?_
    refine jx_T.step (pc' := 34) (st' := [_, _, _, _]) rfl rfl ?_
    refine cl.geti (hx).1 (hx).2 rfl rfl ?_
    refine jx_T.step (pc' := 38) (st' := [_, _, _, _, _]) rfl rfl ?_
    refine cl.geti (hx).1 (hx).2 rfl rfl ?_
    refine jx_T.step (pc' := 42) (st' := [_, _, _, _, _, _]) rfl rfl ?_
    refine jx_T.step (pc' := 43) (st' := [_, _, _, _, _, _, _]) rfl rfl ?_
    refine cl.geti (hx).1 (hx).2 rfl rfl ?_
    refine jx_T.step (pc' := 47) (st' := [_, _, _, _, _, _, _, _]) rfl rfl ?_
    refine cl.geti (hx).1 (hx).2 rfl rfl ?_
    refine cl.p6V rfl (by decide) rfl (Nat.le_of_ble_eq_true rfl) (Nat.le_of_ble_eq_true rfl) (ci) ?_
    exact jx_T.ret rfl rfl
  · have u := (u1 (.inl (5, 8, .inr (.inr (.inr (.inr (va_up f2 k none))))))).tr (u2 _ (.inr (9, [.int T.1, .int (nI T.2.1), .ref s1, .ref nx, .ref s3, .ref s4])))
    refine ⟨s1, nx, s3, s4, f1, va_up f2 k none, f3, ⟨by omega, jx_up_eq⟩, ⟨h2.1, u _ _ h2.2⟩, fun i hi => ?_, ⟨hn, u2 _ _ _ _ jx_up_eq⟩, fun j hj => ?_, ⟨h6.1, u _ _ h6.2⟩, fun j hj => ?_, ⟨h8.1, u _ _ h8.2⟩⟩
    · obtain ⟨b, q1, q2⟩ := h3 i hi
      exact ⟨b, q1, q2.ge u⟩
    · show ((if j = k then none else T.2.2.2.1 j) = none ∧ _) ∨ ∃ X2 b, (if j = k then none else T.2.2.2.1 j) = some X2 ∧ _
      unfold va_up
      by_cases e : j = k
      · rw [if_pos e, if_pos e]
        exact Or.inl ⟨rfl, rfl⟩
      · rw [if_neg e, if_neg e]
        rcases h5 j hj with q | ⟨X, b, q1, q2, q3⟩
        · exact Or.inl q
        · exact Or.inr ⟨X, b, q1, q2, q3.ge u⟩
    · obtain ⟨b, q1, q2⟩ := h7 j hj
      exact ⟨b, q1, q2.ge u⟩
theorem kc_withStream (hn : 35 ≤ nx) (hf : ∀ a, nx ≤ a → g a = none) (im : im_sta g x T) (hM : T.2.1 < 12) {y : Nat} {S : sv} (iy : im_str g y S) : ∃ g2, jx_T 72 0 (jx_ent 72 [.ref x, .ref y]) [] (hc W g nx s) (some (.ref (nx + 1))) (hc W g2 (nx + 2) (s + 18)) ∧ ge g g2 ∧ im_sta g2 (nx + 1) (T.1, T.2.1 + 1, (fun j => if j = T.2.1 then S else T.2.2.1 j), T.2.2.2.1, T.2.2.2.2.1, T.2.2.2.2.2) ∧ ∀ a, nx + 2 ≤ a → g2 a = none := by
  obtain ⟨s1, s2, s3, s4, f1, f2, f3, h1, h2, h3, h4, h5, h6, h7, h8⟩ := im
  have fa := hf nx (Nat.le_refl _)
  have fb := hf (nx + 1) (by omega)
  have u1 : ∀ e, ge g (jx_up g nx e) := fun e => ge.up fa
  have u2 : ∀ e e2, ge (jx_up g nx e) (jx_up (jx_up g nx e) (nx + 1) e2) := fun e e2 => ge.up ((jx_up_ne (by omega)).trans fb)
  have iy0 := iy
  obtain ⟨y1, y2, i1, -⟩ := iy
  refine ⟨jx_up (jx_up g nx (.inl (7, 12, .inr (.inr (.inr (.inr (va_up f1 T.2.1 (some y)))))))) (nx + 1) (.inr (9, [.int T.1, .int (nI (T.2.1 + 1)), .ref nx, .ref s2, .ref s3, .ref s4])), ?_, (u1 _).tr (u2 _ _), ?_, fun a ha => (jx_up_ne (by omega)).trans ((jx_up_ne (by omega)).trans (hf a (by omega)))⟩
  · have na : 35 ≤ nx ∧ jx_up g nx (.inl (7, 12, .inr (.inr (.inr (.inr f1))))) nx = some (.inl (7, 12, .inr (.inr (.inr (.inr f1))))) := ⟨hn, jx_up_eq⟩
    have hx1 : 35 ≤ x ∧ jx_up g nx (.inl (7, 12, .inr (.inr (.inr (.inr f1))))) x = some (.inr (9, [.int T.1, .int (nI T.2.1), .ref s1, .ref s2, .ref s3, .ref s4])) := ⟨h1.1, u1 _ _ _ h1.2⟩
    have hx : 35 ≤ x ∧ jx_up (jx_up g nx (.inl (7, 12, .inr (.inr (.inr (.inr (va_up f1 T.2.1 (some y)))))))) (nx + 1) (.inr (9, jx_dfl.getD 9 [])) x = some (.inr (9, [.int T.1, .int (nI T.2.1), .ref s1, .ref s2, .ref s3, .ref s4])) := ⟨h1.1, u2 _ _ _ _ (u1 _ _ _ h1.2)⟩
    have ci := kc_initState (W := W) (g := jx_up (jx_up g nx (.inl (7, 12, .inr (.inr (.inr (.inr (va_up f1 T.2.1 (some y)))))))) (nx + 1) (.inr (9, jx_dfl.getD 9 []))) (nx := nx + 2) (s := s + 18) (a := nx + 1) (by omega) jx_up_eq T.1 (nI (T.2.1 + 1)) nx s2 s3 s4
    rw [jx_up_up] at ci
    show jx_T 72 0 [.ref x, .ref y, .retAddr 0] [] _ _ _
    refine jx_T.step (pc' := 1) (st' := [_]) rfl rfl ?_
    refine cl.geti (h1).1 (h1).2 rfl rfl ?_
    refine jx_T.step (pc' := 6) (st' := [_, _]) rfl rfl ?_
    rw [rf_lit 12]
    refine cl.bc rfl (jx_br_lt _ _) (fun _ => ?_) (fun zq => absurd (nI_lt hM (by decide)) zq)
    refine jx_T.step (pc' := 12) (st' := [_]) rfl rfl ?_
    refine cl.geti (h1).1 (h1).2 rfl rfl ?_
    refine cl.clnA hn (h2).1 (h2).2 rfl (Nat.le_of_ble_eq_true rfl) ?_
    refine cl.ccast (na).1 (na).2 rfl (by decide) ?_
    refine jx_T.step (pc' := 22) (ls' := [_, _, _]) (st' := []) rfl rfl ?_
    refine jx_T.step (pc' := 23) (st' := [_]) rfl rfl ?_
    refine jx_T.step (pc' := 24) (st' := [_, _]) rfl rfl ?_
    refine cl.geti (hx1).1 (hx1).2 rfl rfl ?_
    refine jx_T.step (pc' := 28) (st' := [_, _, _]) rfl rfl ?_
    refine cl.aastn hn i1.1 (u1 _ _ _ i1.2) rfl (by decide) (rf_ix (by omega) (by decide)) ?_
    rw [nI_clamp (by omega)]
    refine cl.newo (by omega : 35 ≤ nx + 1) rfl ?_
    refine jx_T.step (pc' := 33) (st' := [_, _]) rfl rfl ?_
    refine jx_T.step (pc' := 34) (st' := [_, _, _]) rfl rfl ?_
    refine cl.geti (hx).1 (hx).2 rfl rfl ?_
    refine jx_T.step (pc' := 38) (st' := [_, _, _, _]) rfl rfl ?_
    refine cl.geti (hx).1 (hx).2 rfl rfl ?_
    refine jx_T.step (pc' := 42) (st' := [_, _, _, _, _]) rfl rfl ?_
    refine jx_T.step (pc' := 43) (st' := [_, _, _, _]) rfl rfl ?_
    rw [nI_1]
    refine jx_T.step (pc' := 44) (st' := [_, _, _, _, _]) rfl rfl ?_
    refine jx_T.step (pc' := 45) (st' := [_, _, _, _, _, _]) rfl rfl ?_
    refine cl.geti (hx).1 (hx).2 rfl rfl ?_
    refine jx_T.step (pc' := 49) (st' := [_, _, _, _, _, _, _]) rfl rfl ?_
    refine cl.geti (hx).1 (hx).2 rfl rfl ?_
    refine jx_T.step (pc' := 53) (st' := [_, _, _, _, _, _, _, _]) rfl rfl ?_
    refine cl.geti (hx).1 (hx).2 rfl rfl ?_
    refine cl.p6V rfl (by decide) rfl (Nat.le_of_ble_eq_true rfl) (Nat.le_of_ble_eq_true rfl) (ci) ?_
    exact jx_T.ret rfl rfl
  · have u := (u1 (.inl (7, 12, .inr (.inr (.inr (.inr (va_up f1 T.2.1 (some y)))))))).tr (u2 _ (.inr (9, [.int T.1, .int (nI (T.2.1 + 1)), .ref nx, .ref s2, .ref s3, .ref s4])))
    refine ⟨nx, s2, s3, s4, va_up f1 T.2.1 (some y), f2, f3, ⟨by omega, jx_up_eq⟩, ⟨hn, u2 _ _ _ _ jx_up_eq⟩, fun i hi => ?_, ⟨h4.1, u _ _ h4.2⟩, fun j hj => ?_, ⟨h6.1, u _ _ h6.2⟩, fun j hj => ?_, ⟨h8.1, u _ _ h8.2⟩⟩
    · have hi : i < T.2.1 + 1 := hi
      show ∃ b, va_up f1 T.2.1 (some y) i = some b ∧ im_str _ b (if i = T.2.1 then S else T.2.2.1 i)
      unfold va_up
      by_cases e : i = T.2.1
      · rw [if_pos e, if_pos e]
        exact ⟨y, rfl, iy0.ge u⟩
      · rw [if_neg e, if_neg e]
        obtain ⟨b, q1, q2⟩ := h3 i (by omega)
        exact ⟨b, q1, q2.ge u⟩
    · rcases h5 j hj with q | ⟨X, b, q1, q2, q3⟩
      · exact Or.inl q
      · exact Or.inr ⟨X, b, q1, q2, q3.ge u⟩
    · obtain ⟨b, q1, q2⟩ := h7 j hj
      exact ⟨b, q1, q2.ge u⟩
end
