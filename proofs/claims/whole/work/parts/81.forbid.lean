/-! the works: a pair forbidden or not -/
section
variable {W : cw} {g : Nat → Option jx_E} {B D x : Nat} {T : tv} {nx s : Nat}
def fb_v (o c b : Int32) : Int32 := if b = 0 then o &&& (((1 : Int32) <<< (c &&& 31)) ^^^ -1) else o ||| ((1 : Int32) <<< (c &&& 31))
theorem kc_withForbidden (hn : 35 ≤ nx) (hf : ∀ a, nx ≤ a → g a = none) (im : im_sta g x T) (h : Nat) (hh : h < 12) (c b : Int32) : ∃ g2, jx_T 75 0 (jx_ent 75 [.ref x, .int (nI h), .int c, .int b]) [] (hc W g nx s) (some (.ref (nx + 1))) (hc W g2 (nx + 2) (s + 12 + 6)) ∧ ge g g2 ∧ im_sta g2 (nx + 1) (T.1, T.2.1, T.2.2.1, T.2.2.2.1, T.2.2.2.2.1, upd T.2.2.2.2.2 h (fb_v (T.2.2.2.2.2 h) c b)) ∧ ∀ a, nx + 2 ≤ a → g2 a = none := by
  obtain ⟨s1, s2, s3, s4, f1, f2, f3, h1, h2, h3, h4, h5, h6, h7, h8⟩ := im
  have fa := hf nx (Nat.le_refl _)
  have fb := hf (nx + 1) (by omega)
  have l1 : 35 ≤ nx + 1 := Nat.le_trans hn (Nat.le_add_right _ _)
  have u1 : ∀ e, ge g (jx_up g nx e) := fun e => ge.up fa
  have u2 : ∀ e e2, ge (jx_up g nx e) (jx_up (jx_up g nx e) (nx + 1) e2) := fun e e2 => ge.up ((jx_up_ne (by omega)).trans fb)
  obtain ⟨o, ho⟩ : ∃ o, o = T.2.2.2.2.2 := ⟨_, rfl⟩
  rw [← ho] at h8 ⊢
  refine ⟨jx_up (jx_up g nx (.inl (0, 12, .inl (upd o h (fb_v (o h) c b))))) (nx + 1) (.inr (9, [.int T.1, .int (nI T.2.1), .ref s1, .ref s2, .ref s3, .ref nx])), ?_, (u1 _).tr (u2 _ _), ?_, fun a ha => (jx_up_ne (by omega)).trans ((jx_up_ne (by omega)).trans (hf a (by omega)))⟩
  · have na : 35 ≤ nx ∧ jx_up g nx (.inl (0, 12, .inl o)) nx = some (.inl (0, 12, .inl o)) := ⟨hn, jx_up_eq⟩
    have hx : 35 ≤ x ∧ jx_up (jx_up g nx (.inl (0, 12, .inl (upd o h (fb_v (o h) c b))))) (nx + 1) (.inr (9, jx_dfl.getD 9 [])) x = some (.inr (9, [.int T.1, .int (nI T.2.1), .ref s1, .ref s2, .ref s3, .ref s4])) := ⟨h1.1, u2 _ _ _ _ (u1 _ _ _ h1.2)⟩
    have ci := kc_initState (W := W) (g := jx_up (jx_up g nx (.inl (0, 12, .inl (upd o h (fb_v (o h) c b))))) (nx + 1) (.inr (9, jx_dfl.getD 9 []))) (nx := nx + 2) (s := s + 12 + 6) (a := nx + 1) l1 jx_up_eq T.1 (nI T.2.1) s1 s2 s3 nx
    rw [jx_up_up] at ci
    have t51 : ∀ w, w = fb_v (o h) c b → jx_T 75 51 [.ref x, .int (nI h), .int c, .int b, .ref nx] [.int w, .int (nI h), .ref nx] (hc W (jx_up g nx (.inl (0, 12, .inl o))) (nx + 1) (s + 12)) (some (.ref (nx + 1))) (hc W (jx_up (jx_up g nx (.inl (0, 12, .inl (upd o h (fb_v (o h) c b))))) (nx + 1) (.inr (9, [.int T.1, .int (nI T.2.1), .ref s1, .ref s2, .ref s3, .ref nx]))) (nx + 2) (s + 12 + 6)) := by
      intro w ew
      subst ew
      refine cl.iastn hn rfl (rf_ix hh (by decide)) ?_
      rw [nI_clamp (by omega)]
      refine cl.newo l1 rfl ?_
      refine jx_T.step (pc' := 56) (st' := [_, _]) rfl rfl ?_
      refine jx_T.step (pc' := 57) (st' := [_, _, _]) rfl rfl ?_
      refine cl.geti (hx).1 (hx).2 rfl rfl ?_
      refine jx_T.step (pc' := 61) (st' := [_, _, _, _]) rfl rfl ?_
      refine cl.geti (hx).1 (hx).2 rfl rfl ?_
      refine jx_T.step (pc' := 65) (st' := [_, _, _, _, _]) rfl rfl ?_
      refine cl.geti (hx).1 (hx).2 rfl rfl ?_
      refine jx_T.step (pc' := 69) (st' := [_, _, _, _, _, _]) rfl rfl ?_
      refine cl.geti (hx).1 (hx).2 rfl rfl ?_
      refine jx_T.step (pc' := 73) (st' := [_, _, _, _, _, _, _]) rfl rfl ?_
      refine cl.geti (hx).1 (hx).2 rfl rfl ?_
      refine jx_T.step (pc' := 78) (st' := [_, _, _, _, _, _, _, _]) rfl rfl ?_
      refine cl.p6V rfl (by decide) rfl (Nat.le_of_ble_eq_true rfl) (Nat.le_of_ble_eq_true rfl) (ci) ?_
      exact jx_T.ret rfl rfl
    show jx_T 75 0 [.ref x, .int (nI h), .int c, .int b, .retAddr 0] [] _ _ _
    refine jx_T.step (pc' := 1) (st' := [_]) rfl rfl ?_
    refine cl.geti (h1).1 (h1).2 rfl rfl ?_
    refine cl.clnI hn (h8).1 (h8).2 rfl (Nat.le_of_ble_eq_true rfl) ?_
    refine cl.ccast (na).1 (na).2 rfl (by decide) ?_
    refine jx_T.step (pc' := 12) (ls' := [_, _, _, _, _]) (st' := []) rfl rfl ?_
    refine jx_T.step (pc' := 13) (st' := [_]) rfl rfl ?_
    refine cl.br rfl (jx_br_lt _ _) (fun zq => absurd zq (nI_pos (by omega))) (fun _ => ?_)
    refine jx_T.step (pc' := 17) (st' := [_]) rfl rfl ?_
    refine jx_T.step (pc' := 19) (st' := [_, _]) rfl rfl ?_
    refine cl.aleni (na).1 (na).2 rfl (Or.inl (by decide)) ?_
    refine cl.bc rfl (jx_br_ge _ _) (fun zq => absurd zq (nI_ge hh (by decide))) (fun _ => ?_)
    refine jx_T.step (pc' := 25) (st' := [_]) rfl rfl ?_
    refine jx_T.step (pc' := 26) (st' := [_, _]) rfl rfl ?_
    refine jx_T.step (pc' := 27) (st' := [_, _, _]) rfl rfl ?_
    unfold fb_v at t51
    by_cases z : b = 0
    · simp only [if_pos z] at t51
      simp only [fb_v, if_pos z]
      refine cl.br rfl (jx_br_eq _ _) (fun _ => ?_) (fun zq => absurd (z) zq)
      refine jx_T.step (pc' := 43) (st' := [_, _, _]) rfl rfl ?_
      refine jx_T.step (pc' := 44) (st' := [_, _, _, _]) rfl rfl ?_
      refine cl.ialdi (na).1 (na).2 rfl (rf_ix (by omega) (by decide)) ?_
      rw [nI_clamp (by omega)]
      refine jx_T.step (pc' := 46) (st' := [_, _, _, _]) rfl rfl ?_
      refine jx_T.step (pc' := 47) (st' := [_, _, _, _, _]) rfl rfl ?_
      refine jx_T.step (pc' := 48) (st' := [_, _, _, _]) rfl rfl ?_
      refine jx_T.step (pc' := 49) (st' := [_, _, _, _, _]) rfl rfl ?_
      refine jx_T.step (pc' := 50) (st' := [_, _, _, _]) rfl rfl ?_
      refine jx_T.step (pc' := 51) (st' := [_, _, _]) rfl rfl ?_
      exact t51 _ rfl
    · simp only [if_neg z] at t51
      simp only [fb_v, if_neg z]
      refine cl.br rfl (jx_br_eq _ _) (fun zq => absurd zq (z)) (fun _ => ?_)
      refine jx_T.step (pc' := 32) (st' := [_, _, _]) rfl rfl ?_
      refine jx_T.step (pc' := 33) (st' := [_, _, _, _]) rfl rfl ?_
      refine cl.ialdi (na).1 (na).2 rfl (rf_ix (by omega) (by decide)) ?_
      rw [nI_clamp (by omega)]
      refine jx_T.step (pc' := 35) (st' := [_, _, _, _]) rfl rfl ?_
      refine jx_T.step (pc' := 36) (st' := [_, _, _, _, _]) rfl rfl ?_
      refine jx_T.step (pc' := 37) (st' := [_, _, _, _]) rfl rfl ?_
      refine jx_T.step (pc' := 38) (st' := [_, _, _]) rfl rfl ?_
      refine jx_T.step (pc' := 51) (st' := [_, _, _]) rfl rfl ?_
      exact t51 _ rfl
  · have u := (u1 (.inl (0, 12, .inl (upd o h (fb_v (o h) c b))))).tr (u2 _ (.inr (9, [.int T.1, .int (nI T.2.1), .ref s1, .ref s2, .ref s3, .ref nx])))
    refine ⟨s1, s2, s3, nx, f1, f2, f3, ⟨l1, jx_up_eq⟩, ⟨h2.1, u _ _ h2.2⟩, fun i hi => ?_, ⟨h4.1, u _ _ h4.2⟩, fun j hj => ?_, ⟨h6.1, u _ _ h6.2⟩, fun j hj => ?_, ⟨hn, u2 _ _ _ _ jx_up_eq⟩⟩
    · obtain ⟨b, q1, q2⟩ := h3 i hi
      exact ⟨b, q1, q2.ge u⟩
    · rcases h5 j hj with q | ⟨X, b, q1, q2, q3⟩
      · exact Or.inl q
      · exact Or.inr ⟨X, b, q1, q2, q3.ge u⟩
    · obtain ⟨b, q1, q2⟩ := h7 j hj
      exact ⟨b, q1, q2.ge u⟩
end
