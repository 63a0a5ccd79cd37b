/-! the works: rows copied; a net anew -/
section CLK
variable {W : cw} {g : Nat → Option jx_E} {nx s : Nat} {m pc : Nat} {ls st : List Value} {v : Option Value} {h h2 : jx_H}
theorem cl.clnA (hn : 35 ≤ nx) {a : Nat} (ha : 35 ≤ a) {t k : Nat} {f : Nat → Option Nat} (hg : g a = some (.inl (t, k, .inr (.inr (.inr (.inr f)))))) {n len : Nat} {k0 : Int32} (hr : jx_rc m pc = some (.invokevirtual n, len, 5, t, .int k0)) (hc2 : jx_cat st ≤ 8) (kk : jx_T m (pc + 3) ls (.ref nx :: st) (hc W (jx_up g nx (.inl (t, k, .inr (.inr (.inr (.inr f)))))) (nx + 1) (s + k)) v h2) (ht : 4 ≤ t ∧ t < 8 := by decide) : jx_T m pc ls (.ref a :: st) (hc W g nx s) v h2 := by
  refine jx_T.step (pc' := pc + 3) (ls' := ls) (st' := .ref nx :: st) (h1 := jx_new (hc W g nx s) k (.inl (t, k, .inr (.inr (.inr (.inr f)))))) hr ?_ ?_
  · have e : (hc W g nx s).2.2 a = some (.inl (t, k, .inr (.inr (.inr (.inr f))))) := hc_imm ha hg
    simp only [jx_act, e, if_true, hc2, ht, and_self, true_and, jx_go]
    rfl
  · rw [hc_new hn]
    exact kk
theorem cl.ccast {a : Nat} (ha : 35 ≤ a) {t : Nat} {c : vp_A} (hg : g a = some (.inl (t, c))) {n len y : Nat} {vv : Value} (hr : jx_rc m pc = some (.checkcast n, len, t, y, vv)) (ht : t < 8) (k : jx_T m (pc + 3) ls (.ref a :: st) (hc W g nx s) v h2) : jx_T m pc ls (.ref a :: st) (hc W g nx s) v h2 := by
  refine jx_T.step (pc' := pc + 3) (ls' := ls) (st' := .ref a :: st) hr ?_ k
  have e : (hc W g nx s).2.2 a = some (.inl (t, c)) := hc_imm ha hg
  simp only [jx_act, e, ht, and_self, if_true, jx_go]
theorem cl.clnI (hn : 35 ≤ nx) {a : Nat} (ha : 35 ≤ a) {k : Nat} {f : Nat → Int32} (hg : g a = some (.inl (0, k, .inl f))) {n len : Nat} {k0 : Int32} (hr : jx_rc m pc = some (.invokevirtual n, len, 5, 0, .int k0)) (hc2 : jx_cat st ≤ 8) (kk : jx_T m (pc + 3) ls (.ref nx :: st) (hc W (jx_up g nx (.inl (0, k, .inl f))) (nx + 1) (s + k)) v h2) : jx_T m pc ls (.ref a :: st) (hc W g nx s) v h2 := by
  refine jx_T.step (pc' := pc + 3) (ls' := ls) (st' := .ref nx :: st) (h1 := jx_new (hc W g nx s) k (.inl (0, k, .inl f))) hr ?_ ?_
  · have e : (hc W g nx s).2.2 a = some (.inl (0, k, .inl f)) := hc_imm ha hg
    simp only [jx_act, e, if_true, hc2, and_self, true_and, jx_go]
    rfl
  · rw [hc_new hn]
    exact kk
/-- a store into a row just made -/
theorem cl.aastn {a b t n c : Nat} (ha : 35 ≤ a) (hb : 35 ≤ b) {f : Nat → Option Nat} {fs : List Value} (hg : jx_up g a (.inl (t, n, .inr (.inr (.inr (.inr f))))) b = some (.inr (c, fs))) {x y : Nat} {vv : Value} {i : Int32} (hr : jx_rc m pc = some (.aastore, 1, x, y, vv)) (ht : (4 ≤ t ∧ t < 8) ∧ c = jx_acl.getD t 99) (hi : ¬ (i < 0) ∧ i.toNatClampNeg < n) (k : jx_T m (pc + 1) ls st (hc W (jx_up g a (.inl (t, n, .inr (.inr (.inr (.inr (va_up f i.toNatClampNeg (some b)))))))) nx s) v h2) : jx_T m pc ls (.ref b :: .int i :: .ref a :: st) (hc W (jx_up g a (.inl (t, n, .inr (.inr (.inr (.inr f)))))) nx s) v h2 := by
  refine jx_T.aast hr (hc_imm ha jx_up_eq) (hc_imm hb hg) ht hi ?_
  rw [hc_seto ha, jx_up_up]
  exact k
theorem cl.aastnN {a t n : Nat} (ha : 35 ≤ a) {f : Nat → Option Nat} {x y : Nat} {vv : Value} {i : Int32} (hr : jx_rc m pc = some (.aastore, 1, x, y, vv)) (ht : 4 ≤ t ∧ t < 8) (hi : ¬ (i < 0) ∧ i.toNatClampNeg < n) (k : jx_T m (pc + 1) ls st (hc W (jx_up g a (.inl (t, n, .inr (.inr (.inr (.inr (va_up f i.toNatClampNeg none))))))) nx s) v h2) : jx_T m pc ls (.null :: .int i :: .ref a :: st) (hc W (jx_up g a (.inl (t, n, .inr (.inr (.inr (.inr f)))))) nx s) v h2 := by
  refine jx_T.aastN hr (hc_imm ha jx_up_eq) ht hi ?_
  rw [hc_seto ha, jx_up_up]
  exact k
end CLK
section
variable {W : cw} {g : Nat → Option jx_E} {x : Nat} {T : tv} {nx s : Nat}
theorem kc_withNet (hn : 35 ≤ nx) (hf : ∀ a, nx ≤ a → g a = none) (im : im_sta g x T) (k : Nat) (hk : k < 4) {y : Nat} {X : nev} (iy : im_net g y X) : ∃ g2, jx_T 76 0 (jx_ent 76 [.ref x, .int (nI k), .ref y]) [] (hc W g nx s) (some (.ref (nx + 1))) (hc W g2 (nx + 2) (s + 10)) ∧ ge g g2 ∧ im_sta g2 (nx + 1) (T.1, T.2.1, T.2.2.1, T.2.2.2.1, fun j => if j = k then X else T.2.2.2.2.1 j, T.2.2.2.2.2) ∧ ∀ a, nx + 2 ≤ a → g2 a = none := by
  obtain ⟨s1, s2, s3, s4, f1, f2, f3, h1, h2, h3, h4, h5, h6, h7, h8⟩ := im
  have fa := hf nx (Nat.le_refl _)
  have fb := hf (nx + 1) (by omega)
  have u1 : ∀ e, ge g (jx_up g nx e) := fun e => ge.up fa
  have u2 : ∀ e e2, ge (jx_up g nx e) (jx_up (jx_up g nx e) (nx + 1) e2) := fun e e2 => ge.up ((jx_up_ne (by omega)).trans fb)
  have iy0 := iy
  obtain ⟨y1, y2, y3, i1, -⟩ := iy
  refine ⟨jx_up (jx_up g nx (.inl (4, 4, .inr (.inr (.inr (.inr (va_up f3 k (some y)))))))) (nx + 1) (.inr (9, [.int T.1, .int (nI T.2.1), .ref s1, .ref s2, .ref nx, .ref s4])), ?_, (u1 _).tr (u2 _ _), ?_, fun a ha => (jx_up_ne (by omega)).trans ((jx_up_ne (by omega)).trans (hf a (by omega)))⟩
  · have h1a : ∀ e, 35 ≤ x ∧ jx_up g nx e x = some (.inr (9, [.int T.1, .int (nI T.2.1), .ref s1, .ref s2, .ref s3, .ref s4])) := fun e => ⟨h1.1, u1 _ _ _ h1.2⟩
    have h1b : ∀ e e2, 35 ≤ x ∧ jx_up (jx_up g nx e) (nx + 1) e2 x = some (.inr (9, [.int T.1, .int (nI T.2.1), .ref s1, .ref s2, .ref s3, .ref s4])) := fun e e2 => ⟨h1.1, u2 _ _ _ _ (u1 _ _ _ h1.2)⟩
    have na : 35 ≤ nx ∧ jx_up g nx (.inl (4, 4, .inr (.inr (.inr (.inr f3))))) nx = some (.inl (4, 4, .inr (.inr (.inr (.inr f3))))) := ⟨hn, jx_up_eq⟩
    have hx := h1b (.inl (4, 4, .inr (.inr (.inr (.inr (va_up f3 k (some y))))))) (.inr (9, jx_dfl.getD 9 []))
    have ci := kc_initState (W := W) (g := jx_up (jx_up g nx (.inl (4, 4, .inr (.inr (.inr (.inr (va_up f3 k (some y)))))))) (nx + 1) (.inr (9, jx_dfl.getD 9 []))) (nx := nx + 2) (s := s + 10) (a := nx + 1) (by omega) jx_up_eq T.1 (nI T.2.1) s1 s2 nx s4
    rw [jx_up_up] at ci
    show jx_T 76 0 [.ref x, .int (nI k), .ref y, .retAddr 0] [] _ _ _
    refine jx_T.step (pc' := 1) (st' := [_]) rfl rfl ?_
    refine cl.geti (h1).1 (h1).2 rfl rfl ?_
    refine cl.clnA hn (h6).1 (h6).2 rfl (Nat.le_of_ble_eq_true rfl) ?_
    refine cl.ccast (na).1 (na).2 rfl (by decide) ?_
    refine jx_T.step (pc' := 11) (ls' := [_, _, _, _]) (st' := []) rfl rfl ?_
    refine jx_T.step (pc' := 12) (st' := [_]) rfl rfl ?_
    refine cl.br rfl (jx_br_lt _ _) (fun zq => absurd zq (nI_pos (by omega))) (fun _ => ?_)
    refine jx_T.step (pc' := 16) (st' := [_]) rfl rfl ?_
    refine jx_T.step (pc' := 17) (st' := [_, _]) rfl rfl ?_
    refine cl.aleni (na).1 (na).2 rfl (Or.inl (by decide)) ?_
    refine cl.bc rfl (jx_br_ge _ _) (fun zq => absurd zq (nI_ge (by omega) (by decide))) (fun _ => ?_)
    refine jx_T.step (pc' := 22) (st' := [_]) rfl rfl ?_
    refine jx_T.step (pc' := 23) (st' := [_, _]) rfl rfl ?_
    refine jx_T.step (pc' := 24) (st' := [_, _, _]) rfl rfl ?_
    refine cl.aastn hn i1.1 (u1 _ _ _ i1.2) rfl (by decide) (rf_ix (by omega) (by decide)) ?_
    rw [nI_clamp (by omega)]
    refine cl.newo (by omega : 35 ≤ nx + 1) rfl ?_
    refine jx_T.step (pc' := 29) (st' := [_, _]) rfl rfl ?_
    refine jx_T.step (pc' := 30) (st' := [_, _, _]) rfl rfl ?_
    refine cl.geti (hx).1 (hx).2 rfl rfl ?_
    refine jx_T.step (pc' := 34) (st' := [_, _, _, _]) rfl rfl ?_
    refine cl.geti (hx).1 (hx).2 rfl rfl ?_
    refine jx_T.step (pc' := 38) (st' := [_, _, _, _, _]) rfl rfl ?_
    refine cl.geti (hx).1 (hx).2 rfl rfl ?_
    refine jx_T.step (pc' := 42) (st' := [_, _, _, _, _, _]) rfl rfl ?_
    refine cl.geti (hx).1 (hx).2 rfl rfl ?_
    refine jx_T.step (pc' := 46) (st' := [_, _, _, _, _, _, _]) rfl rfl ?_
    refine jx_T.step (pc' := 47) (st' := [_, _, _, _, _, _, _, _]) rfl rfl ?_
    refine cl.geti (hx).1 (hx).2 rfl rfl ?_
    refine cl.p6V rfl (by decide) rfl (Nat.le_of_ble_eq_true rfl) (Nat.le_of_ble_eq_true rfl) (ci) ?_
    exact jx_T.ret rfl rfl
  · have u := (u1 (.inl (4, 4, .inr (.inr (.inr (.inr (va_up f3 k (some y)))))))).tr (u2 _ (.inr (9, [.int T.1, .int (nI T.2.1), .ref s1, .ref s2, .ref nx, .ref s4])))
    refine ⟨s1, s2, nx, s4, f1, f2, va_up f3 k (some y), ⟨by omega, jx_up_eq⟩, ⟨h2.1, u _ _ h2.2⟩, fun i hi => ?_, ⟨h4.1, u _ _ h4.2⟩, fun j hj => ?_, ⟨hn, u2 _ _ _ _ jx_up_eq⟩, fun j hj => ?_, ⟨h8.1, u _ _ h8.2⟩⟩
    · obtain ⟨b, q1, q2⟩ := h3 i hi
      exact ⟨b, q1, q2.ge u⟩
    · rcases h5 j hj with q | ⟨X, b, q1, q2, q3⟩
      · exact Or.inl q
      · exact Or.inr ⟨X, b, q1, q2, q3.ge u⟩
    · by_cases e : j = k
      · refine ⟨y, ?_, ?_⟩
        · unfold va_up
          rw [if_pos e]
        · show im_net _ y (if j = k then X else T.2.2.2.2.1 j)
          rw [if_pos e]
          exact iy0.ge u
      · obtain ⟨b, q1, q2⟩ := h7 j hj
        refine ⟨b, ?_, ?_⟩
        · unfold va_up
          rw [if_neg e]
          exact q1
        · show im_net _ b (if j = k then X else T.2.2.2.2.1 j)
          rw [if_neg e]
          exact q2.ge u
end
