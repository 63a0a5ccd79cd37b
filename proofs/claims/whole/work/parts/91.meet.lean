/-! the works: meet -/
section
variable {W : cw} {g : Nat → Option jx_E} {B D x : Nat} {T : tv} {nx s : Nat}
theorem cl.acpy {m pc : Nat} {ls st : List Value} {v : Option Value} {h2 : jx_H} {a d na nd : Nat} {f f2 : Nat → Int32} (ha : 35 ≤ a ∧ g a = some (.inl (0, na, .inl f))) (hd : 35 ≤ d ∧ g d = some (.inl (0, nd, .inl f2))) {n len y : Nat} {k0 sp dp k : Int32} (hr : jx_rc m pc = some (.invokestatic n, len, 6, y, .int k0)) (hc2 : jx_cat st ≤ 8) (hb : (¬ (sp < 0) ∧ ¬ (dp < 0) ∧ ¬ (k < 0)) ∧ sp.toNatClampNeg + k.toNatClampNeg ≤ na ∧ dp.toNatClampNeg + k.toNatClampNeg ≤ nd) (kk : jx_T m (pc + 3) ls st (hc W (jx_up g d (.inl (0, nd, .inl (va_cpy f f2 sp.toNatClampNeg dp.toNatClampNeg k.toNatClampNeg)))) nx s) v h2) : jx_T m pc ls (.int k :: .int dp :: .ref d :: .int sp :: .ref a :: st) (hc W g nx s) v h2 := by
  refine jx_T.step (pc' := pc + 3) (ls' := ls) (st' := st) (h1 := jx_set (hc W g nx s) d (.inl (0, nd, .inl (va_cpy f f2 sp.toNatClampNeg dp.toNatClampNeg k.toNatClampNeg)))) hr ?_ ?_
  · have e1 : (hc W g nx s).2.2 a = some (.inl (0, na, .inl f)) := hc_imm ha.1 ha.2
    have e2 : (hc W g nx s).2.2 d = some (.inl (0, nd, .inl f2)) := hc_imm hd.1 hd.2
    simp only [jx_act, e1, e2, if_true]
    rw [if_pos ⟨⟨hc2, trivial, trivial⟩, hb⟩]
    rfl
  · rw [hc_seto hd.1]
    exact kk
/-- a row with one number more -/
def nt_ap (f : Nat → Int32) (n : Nat) (w : Int32) : Nat → Int32 := upd (va_cpy f (fun _ => 0) 0 0 n) n w
theorem nt_ap_lt {f : Nat → Int32} {n j : Nat} {w : Int32} (h : j < n) : nt_ap f n w j = f j := by
  unfold nt_ap upd va_cpy
  rw [if_neg (by omega), if_pos (by omega), show 0 + (j - 0) = j by omega]
theorem nt_ap_eq {f : Nat → Int32} {n : Nat} {w : Int32} : nt_ap f n w n = w := if_pos rfl
theorem kc_copyOf (hn : 35 ≤ nx) (hf : g nx = none) {p n : Nat} {f : Nat → Int32} (hp : 35 ≤ p ∧ g p = some (.inl (0, n, .inl f))) (h20 : n ≤ 20) : jx_T 213 0 (jx_ent 213 [.ref p, .int (nI (n + 1))]) [] (hc W g nx s) (some (.ref nx)) (hc W (jx_up g nx (.inl (0, n + 1, .inl (va_cpy f (fun _ => 0) 0 0 n)))) (nx + 1) (s + (n + 1))) := by
  have hp1 : 35 ≤ p ∧ jx_up g nx (.inl (0, n + 1, .inl (fun _ => 0))) p = some (.inl (0, n, .inl f)) := ⟨hp.1, ge.up hf _ _ hp.2⟩
  have na : 35 ≤ nx ∧ jx_up g nx (.inl (0, n + 1, .inl (fun _ => 0))) nx = some (.inl (0, n + 1, .inl (fun _ => 0))) := ⟨hn, jx_up_eq⟩
  show jx_T 213 0 [.ref p, .int (nI (n + 1)), .retAddr 0] [] _ _ _
  refine jx_T.step (pc' := 1) (st' := [_]) rfl rfl ?_
  refine jx_T.step (pc' := 2) (st' := [_, _]) rfl rfl ?_
  refine cl.aleni (hp).1 (hp).2 rfl (Or.inl (by decide)) ?_
  refine cl.bcn rfl (fun _ => ?_) (fun q => absurd ((nI_inj (by omega) (by omega)).mp q) (by omega))
  refine jx_T.step (pc' := 15) (st' := [_]) rfl rfl ?_
  refine cl.newI hn rfl ⟨nI_pos (by omega), by rw [nI_clamp (by omega)]; omega⟩ ?_
  rw [nI_clamp (by omega)]
  refine jx_T.step (pc' := 18) (ls' := [_, _, _]) (st' := []) rfl rfl ?_
  refine jx_T.step (pc' := 19) (st' := [_]) rfl rfl ?_
  refine jx_T.step (pc' := 20) (st' := [_, _]) rfl rfl ?_
  refine jx_T.step (pc' := 21) (st' := [_, _, _]) rfl rfl ?_
  refine jx_T.step (pc' := 22) (st' := [_, _, _, _]) rfl rfl ?_
  refine jx_T.step (pc' := 23) (st' := [_, _, _, _, _]) rfl rfl ?_
  refine cl.aleni (hp1).1 (hp1).2 rfl (Or.inl (by decide)) ?_
  refine jx_T.step (pc' := 25) (st' := [_, _, _, _, _, _]) rfl rfl ?_
  refine cl.s2I rfl (by decide) rfl (Nat.le_of_ble_eq_true rfl) (Nat.le_of_ble_eq_true rfl) (kc_min _ _ _) ?_
  rw [if_neg (by rw [Int32.not_lt]; exact nI_le (by omega) (by omega))]
  refine cl.acpy hp1 na rfl (Nat.le_of_ble_eq_true rfl) ⟨⟨by decide, by decide, nI_pos (by omega)⟩, ?_, ?_⟩ ?_
  · rw [nI_clamp (by omega)]
    show 0 + n ≤ n
    omega
  · rw [nI_clamp (by omega)]
    show 0 + n ≤ n + 1
    omega
  · rw [nI_clamp (by omega), jx_up_up]
    refine jx_T.step (pc' := 32) (st' := [_]) rfl rfl ?_
    exact jx_T.ret rfl rfl
theorem kc_longer (hn : 35 ≤ nx) (hf : g nx = none) {p n : Nat} {f : Nat → Int32} (hp : 35 ≤ p ∧ g p = some (.inl (0, n, .inl f))) (h20 : n ≤ 20) (w : Int32) : jx_T 32 0 (jx_ent 32 [.ref p, .int w]) [] (hc W g nx s) (some (.ref nx)) (hc W (jx_up g nx (.inl (0, n + 1, .inl (nt_ap f n w)))) (nx + 1) (s + (n + 1))) := by
  have cc := kc_copyOf (W := W) (s := s) hn hf hp h20
  have na : 35 ≤ nx ∧ jx_up g nx (.inl (0, n + 1, .inl (va_cpy f (fun _ => 0) 0 0 n))) nx = some (.inl (0, n + 1, .inl (va_cpy f (fun _ => 0) 0 0 n))) := ⟨hn, jx_up_eq⟩
  show jx_T 32 0 [.ref p, .int w, .retAddr 0] [] _ _ _
  refine jx_T.step (pc' := 1) (st' := [_]) rfl rfl ?_
  refine jx_T.step (pc' := 2) (st' := [_, _]) rfl rfl ?_
  refine cl.aleni (hp).1 (hp).2 rfl (Or.inl (by decide)) ?_
  refine jx_T.step (pc' := 4) (st' := [_, _, _]) rfl rfl ?_
  refine jx_T.step (pc' := 5) (st' := [_, _]) rfl rfl ?_
  rw [nI_1]
  refine cl.s2I rfl (by decide) rfl (Nat.le_of_ble_eq_true rfl) (Nat.le_of_ble_eq_true rfl) (cc) ?_
  refine jx_T.step (pc' := 9) (ls' := [_, _, _]) (st' := []) rfl rfl ?_
  refine jx_T.step (pc' := 10) (st' := [_]) rfl rfl ?_
  refine jx_T.step (pc' := 11) (st' := [_, _]) rfl rfl ?_
  refine cl.aleni (na).1 (na).2 rfl (Or.inl (by decide)) ?_
  refine jx_T.step (pc' := 13) (st' := [_, _, _]) rfl rfl ?_
  refine jx_T.step (pc' := 14) (st' := [_, _]) rfl rfl ?_
  rw [rf_lit 1, rf_nsub (by omega), show n + 1 - 1 = n by omega]
  refine jx_T.step (pc' := 15) (st' := [_, _, _]) rfl rfl ?_
  refine cl.iastn hn rfl (rf_ix (by omega) (by omega)) ?_
  rw [nI_clamp (by omega)]
  refine jx_T.step (pc' := 17) (st' := [_]) rfl rfl ?_
  exact jx_T.ret rfl rfl
theorem kc_withMeeting (hn : 35 ≤ nx) (hf : ∀ a, nx ≤ a → g a = none) {y : Nat} {X : nev} (iy : im_net g y X) (hX : X.1 ≤ 20) (a c q : Int32) : ∃ g2, jx_T 31 0 (jx_ent 31 [.ref y, .int a, .int c, .int q]) [] (hc W g nx s) (some (.ref nx)) (hc W g2 (nx + 4) (s + 4 + (X.1 + 1) + (X.1 + 1) + (X.1 + 1))) ∧ ge g g2 ∧ im_net g2 nx (X.1 + 1, nt_ap X.2.1 X.1 a, nt_ap X.2.2.1 X.1 c, nt_ap X.2.2.2 X.1 q) ∧ ∀ b, nx + 4 ≤ b → g2 b = none := by
  obtain ⟨b1, b2, b3, i0, i1, i2, i3⟩ := iy
  have l1 : 35 ≤ nx + 1 := Nat.le_trans hn (Nat.le_add_right _ _)
  have l2 : 35 ≤ nx + 1 + 1 := Nat.le_trans hn (Nat.le_add_right nx 2)
  have l3 : 35 ≤ nx + 1 + 1 + 1 := Nat.le_trans hn (Nat.le_add_right nx 3)
  obtain ⟨A0, e0⟩ : ∃ A0, A0 = jx_up g nx (.inr (4, jx_dfl.getD 4 [])) := ⟨_, rfl⟩
  obtain ⟨A1, e1⟩ : ∃ A1, A1 = jx_up A0 (nx + 1) (.inl (0, X.1 + 1, .inl (nt_ap X.2.1 X.1 a))) := ⟨_, rfl⟩
  obtain ⟨A2, e2⟩ : ∃ A2, A2 = jx_up A1 (nx + 1 + 1) (.inl (0, X.1 + 1, .inl (nt_ap X.2.2.1 X.1 c))) := ⟨_, rfl⟩
  obtain ⟨A3, e3⟩ : ∃ A3, A3 = jx_up A2 (nx + 1 + 1 + 1) (.inl (0, X.1 + 1, .inl (nt_ap X.2.2.2 X.1 q))) := ⟨_, rfl⟩
  obtain ⟨A4, e4⟩ : ∃ A4, A4 = jx_up A3 nx (.inr (4, [.int (nI (X.1 + 1)), .ref (nx + 1), .ref (nx + 1 + 1), .ref (nx + 1 + 1 + 1)])) := ⟨_, rfl⟩
  have f0 : ∀ b, nx + 1 ≤ b → A0 b = none := fun b hb => by rw [e0]; exact (jx_up_ne (by omega)).trans (hf b (by omega))
  have f1 : ∀ b, nx + 1 + 1 ≤ b → A1 b = none := fun b hb => by rw [e1]; exact (jx_up_ne (by omega)).trans (f0 b (by omega))
  have f2 : ∀ b, nx + 1 + 1 + 1 ≤ b → A2 b = none := fun b hb => by rw [e2]; exact (jx_up_ne (by omega)).trans (f1 b (by omega))
  have f3 : ∀ b, nx + 4 ≤ b → A3 b = none := fun b hb => by rw [e3]; exact (jx_up_ne (by omega)).trans (f2 b (by omega))
  have u0 : ge g A0 := by rw [e0]; exact ge.up (hf nx (Nat.le_refl _))
  have u1 : ge A0 A1 := by rw [e1]; exact ge.up (f0 _ (Nat.le_refl _))
  have u2 : ge A1 A2 := by rw [e2]; exact ge.up (f1 _ (Nat.le_refl _))
  have u3 : ge A2 A3 := by rw [e3]; exact ge.up (f2 _ (Nat.le_refl _))
  have n0 : A0 nx = some (.inr (4, jx_dfl.getD 4 [])) := by rw [e0]; exact jx_up_eq
  have n3 : A3 nx = some (.inr (4, jx_dfl.getD 4 [])) := u3 _ _ (u2 _ _ (u1 _ _ n0))
  have p1 : A1 (nx + 1) = some (.inl (0, X.1 + 1, .inl (nt_ap X.2.1 X.1 a))) := by rw [e1]; exact jx_up_eq
  have p2 : A2 (nx + 1 + 1) = some (.inl (0, X.1 + 1, .inl (nt_ap X.2.2.1 X.1 c))) := by rw [e2]; exact jx_up_eq
  have p3 : A3 (nx + 1 + 1 + 1) = some (.inl (0, X.1 + 1, .inl (nt_ap X.2.2.2 X.1 q))) := by rw [e3]; exact jx_up_eq
  have k0 : ∀ b, b ≠ nx → A4 b = A3 b := fun b hb => by rw [e4]; exact jx_up_ne hb
  refine ⟨A4, ?_, fun b e he => ?_, ⟨nx + 1, nx + 1 + 1, nx + 1 + 1 + 1, ⟨hn, by rw [e4]; exact jx_up_eq⟩, ⟨l1, (k0 _ (by omega)).trans (u3 _ _ (u2 _ _ p1))⟩, ⟨l2, (k0 _ (by omega)).trans (u3 _ _ p2)⟩, ⟨l3, (k0 _ (by omega)).trans p3⟩⟩, fun b hb => (k0 b (by omega)).trans (f3 b hb)⟩
  · have c1 := kc_longer (W := W) (s := s + 4) (g := A0) l1 (f0 _ (Nat.le_refl _)) ⟨i1.1, u0 _ _ i1.2⟩ hX a
    have c2 := kc_longer (W := W) (s := s + 4 + (X.1 + 1)) (g := A1) l2 (f1 _ (Nat.le_refl _)) ⟨i2.1, u1 _ _ (u0 _ _ i2.2)⟩ hX c
    have c3 := kc_longer (W := W) (s := s + 4 + (X.1 + 1) + (X.1 + 1)) (g := A2) l3 (f2 _ (Nat.le_refl _)) ⟨i3.1, u2 _ _ (u1 _ _ (u0 _ _ i3.2))⟩ hX q
    rw [← e1] at c1
    rw [← e2] at c2
    rw [← e3] at c3
    have ci := kc_initNet (W := W) (g := A3) (nx := nx + 4) (s := s + 4 + (X.1 + 1) + (X.1 + 1) + (X.1 + 1)) (a := nx) hn n3 (nI (X.1 + 1)) (nx + 1) (nx + 1 + 1) (nx + 1 + 1 + 1)
    rw [← e4] at ci
    have y0 : 35 ≤ y ∧ A0 y = some (.inr (4, [.int (nI X.1), .ref b1, .ref b2, .ref b3])) := ⟨i0.1, u0 _ _ i0.2⟩
    have y1 : 35 ≤ y ∧ A1 y = some (.inr (4, [.int (nI X.1), .ref b1, .ref b2, .ref b3])) := ⟨i0.1, u1 _ _ y0.2⟩
    have y2 : 35 ≤ y ∧ A2 y = some (.inr (4, [.int (nI X.1), .ref b1, .ref b2, .ref b3])) := ⟨i0.1, u2 _ _ y1.2⟩
    show jx_T 31 0 [.ref y, .int a, .int c, .int q] [] _ _ _
    refine cl.newo hn rfl ?_
    rw [← e0]
    refine jx_T.step (pc' := 4) (st' := [_, _]) rfl rfl ?_
    refine jx_T.step (pc' := 5) (st' := [_, _, _]) rfl rfl ?_
    refine cl.geti (y0).1 (y0).2 rfl rfl ?_
    refine jx_T.step (pc' := 9) (st' := [_, _, _, _]) rfl rfl ?_
    refine jx_T.step (pc' := 10) (st' := [_, _, _]) rfl rfl ?_
    rw [nI_1]
    refine jx_T.step (pc' := 11) (st' := [_, _, _, _]) rfl rfl ?_
    refine cl.geti (y0).1 (y0).2 rfl rfl ?_
    refine jx_T.step (pc' := 15) (st' := [_, _, _, _, _]) rfl rfl ?_
    refine cl.s2I rfl (by decide) rfl (Nat.le_of_ble_eq_true rfl) (Nat.le_of_ble_eq_true rfl) (c1) ?_
    refine jx_T.step (pc' := 19) (st' := [_, _, _, _, _]) rfl rfl ?_
    refine cl.geti (y1).1 (y1).2 rfl rfl ?_
    refine jx_T.step (pc' := 23) (st' := [_, _, _, _, _, _]) rfl rfl ?_
    refine cl.s2I rfl (by decide) rfl (Nat.le_of_ble_eq_true rfl) (Nat.le_of_ble_eq_true rfl) (c2) ?_
    refine jx_T.step (pc' := 27) (st' := [_, _, _, _, _, _]) rfl rfl ?_
    refine cl.geti (y2).1 (y2).2 rfl rfl ?_
    refine jx_T.step (pc' := 31) (st' := [_, _, _, _, _, _, _]) rfl rfl ?_
    refine cl.s2I rfl (by decide) rfl (Nat.le_of_ble_eq_true rfl) (Nat.le_of_ble_eq_true rfl) (c3) ?_
    refine cl.p4V rfl (by decide) rfl (Nat.le_of_ble_eq_true rfl) (Nat.le_of_ble_eq_true rfl) (ci) ?_
    exact jx_T.ret rfl rfl
  · have hb : b ≠ nx := fun z => by rw [z, hf nx (Nat.le_refl _)] at he; exact absurd he (by simp)
    exact (k0 b hb).trans (u3 _ _ (u2 _ _ (u1 _ _ (u0 _ _ he))))
theorem kc_meet_1 (n : cl_now W g x T) (k a c q : Int32) (hb : ¬ ((0 ≤ k.toInt ∧ k.toInt ≤ 3) ∧ (0 ≤ a.toInt ∧ a.toInt < T.2.1) ∧ (0 ≤ c.toInt ∧ c.toInt < T.2.1))) : jx_T 105 0 (jx_ent 105 [.ref 1, .int k, .int a, .int c, .int q]) [] (hc W g nx s) (some (.int 1)) (hc W g nx s) := by
  have cn := kc_now nx s n
  have hM := n.2.2.1
  have sa := kc_streamAt (W := W) nx s n.2.1 n.2.2 a
  have sc := kc_streamAt (W := W) nx s n.2.1 n.2.2 c
  obtain ⟨s1, s2, s3, s4, f1, f2, f3, h1, -⟩ := n.2.1
  show jx_T 105 0 [.ref 1, .int k, .int a, .int c, .int q, .retAddr 0, .retAddr 0] [] _ _ _
  rcases sa with ⟨na, ca⟩ | ⟨ja, ba, la, rfl, ia, ca⟩
  · rcases sc with ⟨nc, cc⟩ | ⟨jc, bc, lc, rfl, ic, cc⟩
    · refine jx_T.step (pc' := 1) (st' := [_]) rfl rfl ?_
      refine cl.v0I (hc_fix 1 (by decide) (cw_c1 _)) rfl (by decide) rfl ⟨Nat.le_of_ble_eq_true rfl, rfl⟩ (Nat.le_of_ble_eq_true rfl) (cn) ?_
      refine jx_T.step (pc' := 5) (st' := [_, _]) rfl rfl ?_
      refine cl.v1I (hc_imm (h1).1 (h1).2) rfl (by decide) rfl ⟨Nat.le_of_ble_eq_true rfl, rfl⟩ (Nat.le_of_ble_eq_true rfl) (ca) ?_
      refine jx_T.step (pc' := 10) (ls' := [_, _, _, _, _, _, _]) (st' := []) rfl rfl ?_
      refine jx_T.step (pc' := 11) (st' := [_]) rfl rfl ?_
      refine cl.v0I (hc_fix 1 (by decide) (cw_c1 _)) rfl (by decide) rfl ⟨Nat.le_of_ble_eq_true rfl, rfl⟩ (Nat.le_of_ble_eq_true rfl) (cn) ?_
      refine jx_T.step (pc' := 15) (st' := [_, _]) rfl rfl ?_
      refine cl.v1I (hc_imm (h1).1 (h1).2) rfl (by decide) rfl ⟨Nat.le_of_ble_eq_true rfl, rfl⟩ (Nat.le_of_ble_eq_true rfl) (cc) ?_
      refine jx_T.step (pc' := 20) (ls' := [_, _, _, _, _, _, _]) (st' := []) rfl rfl ?_
      refine jx_T.step (pc' := 21) (st' := [_]) rfl rfl ?_
      refine jx_T.step (pc' := 22) (st' := [_, _]) rfl rfl ?_
      refine jx_T.step (pc' := 23) (st' := [_, _, _]) rfl rfl ?_
      refine cl.s3I rfl (by decide) rfl (Nat.le_of_ble_eq_true rfl) (Nat.le_of_ble_eq_true rfl) (kc_within _ _ _ _) ?_
      refine cl.br rfl (jx_br_eq _ _) (fun z => ?_) (fun z => ?_)
      · refine jx_T.step (pc' := 40) (st' := [_]) rfl rfl ?_
        exact jx_T.ret rfl rfl
      · refine jx_T.step (pc' := 31) (st' := [_]) rfl rfl ?_
        refine jx_T.step (pc' := 39) (st' := []) rfl rfl ?_
        refine jx_T.step (pc' := 40) (st' := [_]) rfl rfl ?_
        exact jx_T.ret rfl rfl
    · refine jx_T.step (pc' := 1) (st' := [_]) rfl rfl ?_
      refine cl.v0I (hc_fix 1 (by decide) (cw_c1 _)) rfl (by decide) rfl ⟨Nat.le_of_ble_eq_true rfl, rfl⟩ (Nat.le_of_ble_eq_true rfl) (cn) ?_
      refine jx_T.step (pc' := 5) (st' := [_, _]) rfl rfl ?_
      refine cl.v1I (hc_imm (h1).1 (h1).2) rfl (by decide) rfl ⟨Nat.le_of_ble_eq_true rfl, rfl⟩ (Nat.le_of_ble_eq_true rfl) (ca) ?_
      refine jx_T.step (pc' := 10) (ls' := [_, _, _, _, _, _, _]) (st' := []) rfl rfl ?_
      refine jx_T.step (pc' := 11) (st' := [_]) rfl rfl ?_
      refine cl.v0I (hc_fix 1 (by decide) (cw_c1 _)) rfl (by decide) rfl ⟨Nat.le_of_ble_eq_true rfl, rfl⟩ (Nat.le_of_ble_eq_true rfl) (cn) ?_
      refine jx_T.step (pc' := 15) (st' := [_, _]) rfl rfl ?_
      refine cl.v1I (hc_imm (h1).1 (h1).2) rfl (by decide) rfl ⟨Nat.le_of_ble_eq_true rfl, rfl⟩ (Nat.le_of_ble_eq_true rfl) (cc) ?_
      refine jx_T.step (pc' := 20) (ls' := [_, _, _, _, _, _, _]) (st' := []) rfl rfl ?_
      refine jx_T.step (pc' := 21) (st' := [_]) rfl rfl ?_
      refine jx_T.step (pc' := 22) (st' := [_, _]) rfl rfl ?_
      refine jx_T.step (pc' := 23) (st' := [_, _, _]) rfl rfl ?_
      refine cl.s3I rfl (by decide) rfl (Nat.le_of_ble_eq_true rfl) (Nat.le_of_ble_eq_true rfl) (kc_within _ _ _ _) ?_
      refine cl.br rfl (jx_br_eq _ _) (fun z => ?_) (fun z => ?_)
      · refine jx_T.step (pc' := 40) (st' := [_]) rfl rfl ?_
        exact jx_T.ret rfl rfl
      · refine jx_T.step (pc' := 31) (st' := [_]) rfl rfl ?_
        refine jx_T.step (pc' := 39) (st' := []) rfl rfl ?_
        refine jx_T.step (pc' := 40) (st' := [_]) rfl rfl ?_
        exact jx_T.ret rfl rfl
  · rcases sc with ⟨nc, cc⟩ | ⟨jc, bc, lc, rfl, ic, cc⟩
    · refine jx_T.step (pc' := 1) (st' := [_]) rfl rfl ?_
      refine cl.v0I (hc_fix 1 (by decide) (cw_c1 _)) rfl (by decide) rfl ⟨Nat.le_of_ble_eq_true rfl, rfl⟩ (Nat.le_of_ble_eq_true rfl) (cn) ?_
      refine jx_T.step (pc' := 5) (st' := [_, _]) rfl rfl ?_
      refine cl.v1I (hc_imm (h1).1 (h1).2) rfl (by decide) rfl ⟨Nat.le_of_ble_eq_true rfl, rfl⟩ (Nat.le_of_ble_eq_true rfl) (ca) ?_
      refine jx_T.step (pc' := 10) (ls' := [_, _, _, _, _, _, _]) (st' := []) rfl rfl ?_
      refine jx_T.step (pc' := 11) (st' := [_]) rfl rfl ?_
      refine cl.v0I (hc_fix 1 (by decide) (cw_c1 _)) rfl (by decide) rfl ⟨Nat.le_of_ble_eq_true rfl, rfl⟩ (Nat.le_of_ble_eq_true rfl) (cn) ?_
      refine jx_T.step (pc' := 15) (st' := [_, _]) rfl rfl ?_
      refine cl.v1I (hc_imm (h1).1 (h1).2) rfl (by decide) rfl ⟨Nat.le_of_ble_eq_true rfl, rfl⟩ (Nat.le_of_ble_eq_true rfl) (cc) ?_
      refine jx_T.step (pc' := 20) (ls' := [_, _, _, _, _, _, _]) (st' := []) rfl rfl ?_
      refine jx_T.step (pc' := 21) (st' := [_]) rfl rfl ?_
      refine jx_T.step (pc' := 22) (st' := [_, _]) rfl rfl ?_
      refine jx_T.step (pc' := 23) (st' := [_, _, _]) rfl rfl ?_
      refine cl.s3I rfl (by decide) rfl (Nat.le_of_ble_eq_true rfl) (Nat.le_of_ble_eq_true rfl) (kc_within _ _ _ _) ?_
      refine cl.br rfl (jx_br_eq _ _) (fun z => ?_) (fun z => ?_)
      · refine jx_T.step (pc' := 40) (st' := [_]) rfl rfl ?_
        exact jx_T.ret rfl rfl
      · refine jx_T.step (pc' := 31) (st' := [_]) rfl rfl ?_
        refine jx_T.step (pc' := 34) (st' := []) rfl rfl ?_
        refine jx_T.step (pc' := 36) (st' := [_]) rfl rfl ?_
        refine jx_T.step (pc' := 39) (st' := []) rfl rfl ?_
        refine jx_T.step (pc' := 40) (st' := [_]) rfl rfl ?_
        exact jx_T.ret rfl rfl
    · refine jx_T.step (pc' := 1) (st' := [_]) rfl rfl ?_
      refine cl.v0I (hc_fix 1 (by decide) (cw_c1 _)) rfl (by decide) rfl ⟨Nat.le_of_ble_eq_true rfl, rfl⟩ (Nat.le_of_ble_eq_true rfl) (cn) ?_
      refine jx_T.step (pc' := 5) (st' := [_, _]) rfl rfl ?_
      refine cl.v1I (hc_imm (h1).1 (h1).2) rfl (by decide) rfl ⟨Nat.le_of_ble_eq_true rfl, rfl⟩ (Nat.le_of_ble_eq_true rfl) (ca) ?_
      refine jx_T.step (pc' := 10) (ls' := [_, _, _, _, _, _, _]) (st' := []) rfl rfl ?_
      refine jx_T.step (pc' := 11) (st' := [_]) rfl rfl ?_
      refine cl.v0I (hc_fix 1 (by decide) (cw_c1 _)) rfl (by decide) rfl ⟨Nat.le_of_ble_eq_true rfl, rfl⟩ (Nat.le_of_ble_eq_true rfl) (cn) ?_
      refine jx_T.step (pc' := 15) (st' := [_, _]) rfl rfl ?_
      refine cl.v1I (hc_imm (h1).1 (h1).2) rfl (by decide) rfl ⟨Nat.le_of_ble_eq_true rfl, rfl⟩ (Nat.le_of_ble_eq_true rfl) (cc) ?_
      refine jx_T.step (pc' := 20) (ls' := [_, _, _, _, _, _, _]) (st' := []) rfl rfl ?_
      refine jx_T.step (pc' := 21) (st' := [_]) rfl rfl ?_
      refine jx_T.step (pc' := 22) (st' := [_, _]) rfl rfl ?_
      refine jx_T.step (pc' := 23) (st' := [_, _, _]) rfl rfl ?_
      refine cl.s3I rfl (by decide) rfl (Nat.le_of_ble_eq_true rfl) (Nat.le_of_ble_eq_true rfl) (kc_within _ _ _ _) ?_
      refine cl.br rfl (jx_br_eq _ _) (fun _ => ?_) (fun zq => absurd ((rf_o_0 _).mpr (fun z => hb ⟨z, by rw [nI_toInt (by omega)]; omega, by rw [nI_toInt (by omega)]; omega⟩)) zq)
      refine jx_T.step (pc' := 40) (st' := [_]) rfl rfl ?_
      exact jx_T.ret rfl rfl
/-- behind the first tests of meet -/
theorem kc_meet_in (n : cl_now W g x T) {s1 s2 s3 s4 : Nat} {f3 : Nat → Option Nat} (p1 : 35 ≤ x ∧ g x = some (.inr (9, [.int T.1, .int (nI T.2.1), .ref s1, .ref s2, .ref s3, .ref s4]))) (p6 : 35 ≤ s3 ∧ g s3 = some (.inl (4, 4, .inr (.inr (.inr (.inr f3)))))) (k a c : Nat) (q : Int32) (hk : k < 4) (ha : a < T.2.1) (hc2 : c < T.2.1) {y : Nat} {X : nev} (ey : f3 k = some y) (iy : im_net g y X) {v : Option Value} {h2 : jx_H} (kk : ∀ ba bc, im_str g ba (T.2.2.1 a) → im_str g bc (T.2.2.1 c) → jx_T 105 53 [.ref 1, .int (nI k), .int (nI a), .int (nI c), .int q, .ref ba, .ref bc] [.int (nI X.1)] (hc W g nx s) v h2) : jx_T 105 0 (jx_ent 105 [.ref 1, .int (nI k), .int (nI a), .int (nI c), .int q]) [] (hc W g nx s) v h2 := by
  have cn := kc_now nx s n
  have hM := n.2.2.1
  have sa := kc_streamAt (W := W) nx s n.2.1 n.2.2 (nI a)
  have sc := kc_streamAt (W := W) nx s n.2.1 n.2.2 (nI c)
  obtain ⟨b1, b2, b3, i0, -⟩ := iy
  rcases sa with ⟨z, -⟩ | ⟨ja, ba, la, e1, ia, ca⟩
  · rw [nI_toInt (by omega)] at z
    omega
  rcases sc with ⟨z, -⟩ | ⟨jc, bc, lc, e2, ic, cc⟩
  · rw [nI_toInt (by omega)] at z
    omega
  obtain rfl : a = ja := (nI_inj (by omega) (by omega)).mp e1
  obtain rfl : c = jc := (nI_inj (by omega) (by omega)).mp e2
  show jx_T 105 0 [.ref 1, .int (nI k), .int (nI a), .int (nI c), .int q, .retAddr 0, .retAddr 0] [] _ _ _
  refine jx_T.step (pc' := 1) (st' := [_]) rfl rfl ?_
  refine cl.v0I (hc_fix 1 (by decide) (cw_c1 _)) rfl (by decide) rfl ⟨Nat.le_of_ble_eq_true rfl, rfl⟩ (Nat.le_of_ble_eq_true rfl) (cn) ?_
  refine jx_T.step (pc' := 5) (st' := [_, _]) rfl rfl ?_
  refine cl.v1I (hc_imm (p1).1 (p1).2) rfl (by decide) rfl ⟨Nat.le_of_ble_eq_true rfl, rfl⟩ (Nat.le_of_ble_eq_true rfl) (ca) ?_
  refine jx_T.step (pc' := 10) (ls' := [_, _, _, _, _, _, _]) (st' := []) rfl rfl ?_
  refine jx_T.step (pc' := 11) (st' := [_]) rfl rfl ?_
  refine cl.v0I (hc_fix 1 (by decide) (cw_c1 _)) rfl (by decide) rfl ⟨Nat.le_of_ble_eq_true rfl, rfl⟩ (Nat.le_of_ble_eq_true rfl) (cn) ?_
  refine jx_T.step (pc' := 15) (st' := [_, _]) rfl rfl ?_
  refine cl.v1I (hc_imm (p1).1 (p1).2) rfl (by decide) rfl ⟨Nat.le_of_ble_eq_true rfl, rfl⟩ (Nat.le_of_ble_eq_true rfl) (cc) ?_
  refine jx_T.step (pc' := 20) (ls' := [_, _, _, _, _, _, _]) (st' := []) rfl rfl ?_
  refine jx_T.step (pc' := 21) (st' := [_]) rfl rfl ?_
  refine jx_T.step (pc' := 22) (st' := [_, _]) rfl rfl ?_
  refine jx_T.step (pc' := 23) (st' := [_, _, _]) rfl rfl ?_
  refine cl.s3I rfl (by decide) rfl (Nat.le_of_ble_eq_true rfl) (Nat.le_of_ble_eq_true rfl) (kc_within _ _ _ _) ?_
  refine cl.br rfl (jx_br_eq _ _) (fun zq => absurd zq (fun z => (rf_o_0 _).mp z (rf_k4 hk))) (fun _ => ?_)
  refine jx_T.step (pc' := 31) (st' := [_]) rfl rfl ?_
  refine jx_T.step (pc' := 34) (st' := []) rfl rfl ?_
  refine jx_T.step (pc' := 36) (st' := [_]) rfl rfl ?_
  refine jx_T.step (pc' := 41) (st' := []) rfl rfl ?_
  refine jx_T.step (pc' := 42) (st' := [_]) rfl rfl ?_
  refine cl.v0I (hc_fix 1 (by decide) (cw_c1 _)) rfl (by decide) rfl ⟨Nat.le_of_ble_eq_true rfl, rfl⟩ (Nat.le_of_ble_eq_true rfl) (cn) ?_
  refine cl.geti (p1).1 (p1).2 rfl rfl ?_
  refine jx_T.step (pc' := 49) (st' := [_, _]) rfl rfl ?_
  refine cl.aaldi (p6).1 (p6).2 rfl (by decide) (rf_ix (by omega) (by decide)) ?_
  rw [nI_clamp (by omega), ey]
  refine cl.geti (i0).1 (i0).2 rfl rfl ?_
  exact kk ba bc ia ic
theorem kc_meet_2 (n : cl_now W g x T) (k a c : Nat) (q : Int32) (hk : k < 4) (ha : a < T.2.1) (hc2 : c < T.2.1) (h20 : (T.2.2.2.2.1 k).1 = 20) : jx_T 105 0 (jx_ent 105 [.ref 1, .int (nI k), .int (nI a), .int (nI c), .int q]) [] (hc W g nx s) (some (.int 2)) (hc W g nx s) := by
  have n1 := n
  obtain ⟨s1, s2, s3, s4, f1, f2, f3, p1, p2, p3, p4, p5, p6, p7, -⟩ := n1.2.1
  obtain ⟨y, ey, iy⟩ := p7 k hk
  refine kc_meet_in n p1 p6 k a c q hk ha hc2 ey iy (fun ba bc _ _ => ?_)
  rw [h20]
  refine jx_T.step (pc' := 55) (st' := [_, _]) rfl rfl ?_
  refine cl.bc rfl (jx_br_lt _ _) (fun zq => absurd zq (by decide)) (fun _ => ?_)
  refine jx_T.step (pc' := 59) (st' := [_]) rfl rfl ?_
  exact jx_T.ret rfl rfl
theorem kc_meet_3 (n : cl_now W g x T) (k a c : Nat) (q : Int32) (hk : k < 4) (ha : a < T.2.1) (hc2 : c < T.2.1) (h20 : (T.2.2.2.2.1 k).1 < 20) (hq : ¬ (1 ≤ q.toInt ∧ q.toInt ≤ 100000000)) : jx_T 105 0 (jx_ent 105 [.ref 1, .int (nI k), .int (nI a), .int (nI c), .int q]) [] (hc W g nx s) (some (.int 3)) (hc W g nx s) := by
  have n1 := n
  obtain ⟨s1, s2, s3, s4, f1, f2, f3, p1, p2, p3, p4, p5, p6, p7, -⟩ := n1.2.1
  obtain ⟨y, ey, iy⟩ := p7 k hk
  refine kc_meet_in n p1 p6 k a c q hk ha hc2 ey iy (fun ba bc _ _ => ?_)
  refine jx_T.step (pc' := 55) (st' := [_, _]) rfl rfl ?_
  rw [rf_lit 20]
  refine cl.bc rfl (jx_br_lt _ _) (fun _ => ?_) (fun zq => absurd (Int32.not_le.mp (nI_ge h20 (by omega))) zq)
  refine jx_T.step (pc' := 62) (st' := [_]) rfl rfl ?_
  refine jx_T.step (pc' := 63) (st' := [_, _]) rfl rfl ?_
  refine jx_T.step (pc' := 65) (st' := [_, _, _]) rfl rfl ?_
  refine cl.s3I rfl (by decide) rfl (Nat.le_of_ble_eq_true rfl) (Nat.le_of_ble_eq_true rfl) (kc_within _ _ _ _) ?_
  refine cl.brn rfl (fun zq => absurd ((rf_o_0 _).mpr hq) zq) (fun _ => ?_)
  refine jx_T.step (pc' := 72) (st' := [_]) rfl rfl ?_
  exact jx_T.ret rfl rfl
theorem kc_meet_6 (n : cl_now W g x T) (k a c : Nat) (q : Int32) (hk : k < 4) (ha : a < T.2.1) (hc2 : c < T.2.1) (h20 : (T.2.2.2.2.1 k).1 < 20) (hq : 1 ≤ q.toInt ∧ q.toInt ≤ 100000000) (hb : ¬ (¬ sv_hot (T.2.2.1 a) = 0 ∧ sv_hot (T.2.2.1 c) = 0 ∧ ¬ ((T.2.2.1 a).1 = 3 ∨ (T.2.2.1 a).1 = 4) ∧ ¬ ((T.2.2.1 c).1 = 3 ∨ (T.2.2.1 c).1 = 4))) : jx_T 105 0 (jx_ent 105 [.ref 1, .int (nI k), .int (nI a), .int (nI c), .int q]) [] (hc W g nx s) (some (.int 6)) (hc W g nx s) := by
  have n1 := n
  obtain ⟨s1, s2, s3, s4, f1, f2, f3, p1, p2, p3, p4, p5, p6, p7, -⟩ := n1.2.1
  obtain ⟨y, ey, iy⟩ := p7 k hk
  refine kc_meet_in n p1 p6 k a c q hk ha hc2 ey iy (fun ba bc ia ic => ?_)
  have ca := kc_isBought W nx s ia
  have cc := kc_isBought W nx s ic
  obtain ⟨d1, d2, r1, -⟩ := ia
  obtain ⟨d3, d4, r2, -⟩ := ic
  refine jx_T.step (pc' := 55) (st' := [_, _]) rfl rfl ?_
  rw [rf_lit 20]
  refine cl.bc rfl (jx_br_lt _ _) (fun _ => ?_) (fun zq => absurd (Int32.not_le.mp (nI_ge h20 (by omega))) zq)
  refine jx_T.step (pc' := 62) (st' := [_]) rfl rfl ?_
  refine jx_T.step (pc' := 63) (st' := [_, _]) rfl rfl ?_
  refine jx_T.step (pc' := 65) (st' := [_, _, _]) rfl rfl ?_
  refine cl.s3I rfl (by decide) rfl (Nat.le_of_ble_eq_true rfl) (Nat.le_of_ble_eq_true rfl) (kc_within _ _ _ _) ?_
  refine cl.brn rfl (fun _ => ?_) (fun zq => absurd zq (fun z => (rf_o_0 _).mp z hq))
  refine jx_T.step (pc' := 75) (st' := [_]) rfl rfl ?_
  refine cl.geti (r1).1 (r1).2 rfl rfl ?_
  by_cases z1 : sv_hot (T.2.2.1 a) = 0
  · refine cl.br rfl (jx_br_eq _ _) (fun _ => ?_) (fun zq => absurd (z1) zq)
    refine jx_T.step (pc' := 107) (st' := [_]) rfl rfl ?_
    exact jx_T.ret rfl rfl
  · refine cl.br rfl (jx_br_eq _ _) (fun zq => absurd zq (z1)) (fun _ => ?_)
    refine jx_T.step (pc' := 83) (st' := [_]) rfl rfl ?_
    refine cl.geti (r2).1 (r2).2 rfl rfl ?_
    by_cases z2 : sv_hot (T.2.2.1 c) = 0
    · refine cl.brn rfl (fun zq => absurd (z2) zq) (fun _ => ?_)
      refine jx_T.step (pc' := 91) (st' := [_]) rfl rfl ?_
      refine cl.v0I (hc_imm (r1).1 (r1).2) rfl (by decide) rfl ⟨Nat.le_of_ble_eq_true rfl, rfl⟩ (Nat.le_of_ble_eq_true rfl) (ca) ?_
      by_cases z3 : (T.2.2.1 a).1 = 3 ∨ (T.2.2.1 a).1 = 4
      · refine cl.brn rfl (fun _ => ?_) (fun zq => absurd zq (fun z => (rf_o_0 _).mp z z3))
        refine jx_T.step (pc' := 107) (st' := [_]) rfl rfl ?_
        exact jx_T.ret rfl rfl
      · refine cl.brn rfl (fun zq => absurd ((rf_o_0 _).mpr z3) zq) (fun _ => ?_)
        refine jx_T.step (pc' := 99) (st' := [_]) rfl rfl ?_
        refine cl.v0I (hc_imm (r2).1 (r2).2) rfl (by decide) rfl ⟨Nat.le_of_ble_eq_true rfl, rfl⟩ (Nat.le_of_ble_eq_true rfl) (cc) ?_
        refine cl.br rfl (jx_br_eq _ _) (fun zq => absurd zq (fun z => hb ⟨z1, z2, z3, (rf_o_0 _).mp z⟩)) (fun _ => ?_)
        refine jx_T.step (pc' := 107) (st' := [_]) rfl rfl ?_
        exact jx_T.ret rfl rfl
    · refine cl.brn rfl (fun _ => ?_) (fun zq => absurd zq (z2))
      refine jx_T.step (pc' := 107) (st' := [_]) rfl rfl ?_
      exact jx_T.ret rfl rfl
theorem kc_meet (hn : 35 ≤ nx) (hf : ∀ a, nx ≤ a → g a = none) (h : kn_at W g B D x T) (k a c : Nat) (q : Int32) (hk : k < 4) (ha : a < T.2.1) (hc2 : c < T.2.1) (h20 : (T.2.2.2.2.1 k).1 < 20) (hq : 1 ≤ q.toInt ∧ q.toInt ≤ 100000000) (z1 : ¬ sv_hot (T.2.2.1 a) = 0) (z2 : sv_hot (T.2.2.1 c) = 0) (z3 : ¬ ((T.2.2.1 a).1 = 3 ∨ (T.2.2.1 a).1 = 4)) (z4 : ¬ ((T.2.2.1 c).1 = 3 ∨ (T.2.2.1 c).1 = 4)) : ∃ g2, jx_T 105 0 (jx_ent 105 [.ref 1, .int (nI k), .int (nI a), .int (nI c), .int q]) [] (hc W g nx s) (some (.int 0)) (hc (kw_act W B D (nx + 5)) g2 (nx + 6) (s + 4 + ((T.2.2.2.2.1 k).1 + 1) + ((T.2.2.2.2.1 k).1 + 1) + ((T.2.2.2.2.1 k).1 + 1) + 10)) ∧ ge g g2 ∧ (∀ a, nx + 6 ≤ a → g2 a = none) ∧ kn_at (kw_act W B D (nx + 5)) g2 (kB B D) (kD D) (nx + 5) (T.1, T.2.1, T.2.2.1, T.2.2.2.1, (fun j => if j = k then ((T.2.2.2.2.1 k).1 + 1, nt_ap (T.2.2.2.2.1 k).2.1 (T.2.2.2.2.1 k).1 (nI a), nt_ap (T.2.2.2.2.1 k).2.2.1 (T.2.2.2.2.1 k).1 (nI c), nt_ap (T.2.2.2.2.1 k).2.2.2 (T.2.2.2.2.1 k).1 q) else T.2.2.2.2.1 j), T.2.2.2.2.2) := by
  have n := h.n
  have cn := kc_now nx s n
  obtain ⟨⟨h1, h2, h3, h4, h5⟩, im, ok⟩ := h
  have im0 := im
  obtain ⟨s1, s2, s3, s4, f1, f2, f3, p1, p2, p3, p4, p5, p6, p7, p8⟩ := im
  obtain ⟨y, ey, iy⟩ := p7 k hk
  obtain ⟨G, cG, uG, iG, fG⟩ := kc_withMeeting (W := W) (s := s) hn hf iy (by omega) (nI a) (nI c) q
  obtain ⟨g2, c2, u2, im2, fr⟩ := kc_withNet (W := W) (s := s + 4 + ((T.2.2.2.2.1 k).1 + 1) + ((T.2.2.2.2.1 k).1 + 1) + ((T.2.2.2.2.1 k).1 + 1)) (nx := nx + 4) (by omega) fG (im0.ge uG) k hk iG
  refine ⟨g2, ?_, uG.tr u2, fr, kn_at.act ⟨⟨h1, h2, h3, h4, h5⟩, im0, ok⟩ im2 ok⟩
  obtain ⟨t1, t2, t3, t4, e3, e4, e5, k1, -⟩ := im2
  have cact := kc_act (W := W) (g := g2) (nx := nx + 4 + 2) (s := s + 4 + ((T.2.2.2.2.1 k).1 + 1) + ((T.2.2.2.2.1 k).1 + 1) + ((T.2.2.2.2.1 k).1 + 1) + 10) B D h1 h2 h3 h4 k1
  have pG : 35 ≤ x ∧ G x = some (.inr (9, [.int T.1, .int (nI T.2.1), .ref s1, .ref s2, .ref s3, .ref s4])) := ⟨p1.1, uG _ _ p1.2⟩
  refine kc_meet_in n p1 p6 k a c q hk ha hc2 ey iy (fun ba bc ia ic => ?_)
  have ca := kc_isBought W nx s ia
  have cc := kc_isBought W nx s ic
  obtain ⟨d1, d2, r1, -⟩ := ia
  obtain ⟨d3, d4, r2, -⟩ := ic
  obtain ⟨b1, b2, b3, i0, -⟩ := iy
  refine jx_T.step (pc' := 55) (st' := [_, _]) rfl rfl ?_
  rw [rf_lit 20]
  refine cl.bc rfl (jx_br_lt _ _) (fun _ => ?_) (fun zq => absurd (Int32.not_le.mp (nI_ge h20 (by omega))) zq)
  refine jx_T.step (pc' := 62) (st' := [_]) rfl rfl ?_
  refine jx_T.step (pc' := 63) (st' := [_, _]) rfl rfl ?_
  refine jx_T.step (pc' := 65) (st' := [_, _, _]) rfl rfl ?_
  refine cl.s3I rfl (by decide) rfl (Nat.le_of_ble_eq_true rfl) (Nat.le_of_ble_eq_true rfl) (kc_within _ _ _ _) ?_
  refine cl.brn rfl (fun _ => ?_) (fun zq => absurd zq (fun z => (rf_o_0 _).mp z hq))
  refine jx_T.step (pc' := 75) (st' := [_]) rfl rfl ?_
  refine cl.geti (r1).1 (r1).2 rfl rfl ?_
  refine cl.br rfl (jx_br_eq _ _) (fun zq => absurd zq (z1)) (fun _ => ?_)
  refine jx_T.step (pc' := 83) (st' := [_]) rfl rfl ?_
  refine cl.geti (r2).1 (r2).2 rfl rfl ?_
  refine cl.brn rfl (fun zq => absurd (z2) zq) (fun _ => ?_)
  refine jx_T.step (pc' := 91) (st' := [_]) rfl rfl ?_
  refine cl.v0I (hc_imm (r1).1 (r1).2) rfl (by decide) rfl ⟨Nat.le_of_ble_eq_true rfl, rfl⟩ (Nat.le_of_ble_eq_true rfl) (ca) ?_
  refine cl.brn rfl (fun zq => absurd ((rf_o_0 _).mpr z3) zq) (fun _ => ?_)
  refine jx_T.step (pc' := 99) (st' := [_]) rfl rfl ?_
  refine cl.v0I (hc_imm (r2).1 (r2).2) rfl (by decide) rfl ⟨Nat.le_of_ble_eq_true rfl, rfl⟩ (Nat.le_of_ble_eq_true rfl) (cc) ?_
  refine cl.br rfl (jx_br_eq _ _) (fun _ => ?_) (fun zq => absurd ((rf_o_0 _).mpr z4) zq)
  refine jx_T.step (pc' := 109) (st' := [_]) rfl rfl ?_
  refine jx_T.step (pc' := 110) (st' := [_, _]) rfl rfl ?_
  refine cl.v0I (hc_fix 1 (by decide) (cw_c1 _)) rfl (by decide) rfl ⟨Nat.le_of_ble_eq_true rfl, rfl⟩ (Nat.le_of_ble_eq_true rfl) (cn) ?_
  refine jx_T.step (pc' := 114) (st' := [_, _, _]) rfl rfl ?_
  refine jx_T.step (pc' := 115) (st' := [_, _, _, _]) rfl rfl ?_
  refine cl.v0I (hc_fix 1 (by decide) (cw_c1 _)) rfl (by decide) rfl ⟨Nat.le_of_ble_eq_true rfl, rfl⟩ (Nat.le_of_ble_eq_true rfl) (cn) ?_
  refine cl.geti (p1).1 (p1).2 rfl rfl ?_
  refine jx_T.step (pc' := 122) (st' := [_, _, _, _, _]) rfl rfl ?_
  refine cl.aaldi (p6).1 (p6).2 rfl (by decide) (rf_ix (by omega) (by decide)) ?_
  rw [nI_clamp (by omega), ey]
  refine jx_T.step (pc' := 124) (st' := [_, _, _, _, _]) rfl rfl ?_
  refine jx_T.step (pc' := 125) (st' := [_, _, _, _, _, _]) rfl rfl ?_
  refine jx_T.step (pc' := 127) (st' := [_, _, _, _, _, _, _]) rfl rfl ?_
  refine cl.v3I (hc_imm (i0).1 (i0).2) rfl (by decide) rfl ⟨Nat.le_of_ble_eq_true rfl, rfl⟩ (Nat.le_of_ble_eq_true rfl) (cG) ?_
  refine cl.v2I (hc_imm (pG).1 (pG).2) rfl (by decide) rfl ⟨Nat.le_of_ble_eq_true rfl, rfl⟩ (Nat.le_of_ble_eq_true rfl) (c2) ?_
  refine cl.v1I (hc_fix 1 (by decide) (cw_c1 _)) rfl (by decide) rfl ⟨Nat.le_of_ble_eq_true rfl, rfl⟩ (Nat.le_of_ble_eq_true rfl) (cact) ?_
  exact jx_T.ret rfl rfl
end
