/-! the works: rows made anew; a net; empty -/
section CLM
variable {W : cw} {g : Nat → Option jx_E} {nx s : Nat} {m pc : Nat} {ls st : List Value} {v : Option Value} {h h2 : jx_H}
theorem cl.newI (hn : 35 ≤ nx) {t : ClassFile.ArrayType} {len y : Nat} {vv : Value} {k : Int32} (hr : jx_rc m pc = some (.newarray t, len, 0, y, vv)) (hk : ¬ (k < 0) ∧ k.toNatClampNeg ≤ 1000000) (kk : jx_T m (pc + 2) ls (.ref nx :: st) (hc W (jx_up g nx (.inl (0, k.toNatClampNeg, .inl (fun _ => 0)))) (nx + 1) (s + k.toNatClampNeg)) v h2) : jx_T m pc ls (.int k :: st) (hc W g nx s) v h2 := by
  refine jx_T.step (pc' := pc + 2) (ls' := ls) (st' := .ref nx :: st) (h1 := jx_new (hc W g nx s) k.toNatClampNeg (.inl (0, k.toNatClampNeg, .inl (fun _ => 0)))) hr ?_ ?_
  · simp only [jx_act, if_pos hk, jx_go]
    rfl
  · rw [hc_new hn]
    exact kk
theorem cl.p4V {n len x y a : Nat} {a1 a2 a3 a4 : Value} {k0 : Int32} {rest : List Value} {h1 : jx_H} (hr : jx_rc m pc = some (.invokespecial n, len, x, y, .int k0)) (hx : ¬ x = 4) (hk : k0 = 4) (hc : jx_cat rest ≤ 8) (hl : (jx_args [.ref a, a1, a2, a3, a4]).length ≤ (jx_mi y).2.2.1) (hM : jx_T y 0 (jx_ent y [.ref a, a1, a2, a3, a4]) [] h none h1) (k : jx_T m (pc + 3) ls rest h1 v h2) : jx_T m pc ls (a4 :: a3 :: a2 :: a1 :: .ref a :: rest) h v h2 := by
  subst hk
  exact jx_T.spec hr hx rfl hc rfl hl hM k
theorem cl.p2V {n len x y a : Nat} {a1 a2 : Value} {k0 : Int32} {rest : List Value} {h1 : jx_H} (hr : jx_rc m pc = some (.invokespecial n, len, x, y, .int k0)) (hx : ¬ x = 4) (hk : k0 = 2) (hc : jx_cat rest ≤ 8) (hl : (jx_args [.ref a, a1, a2]).length ≤ (jx_mi y).2.2.1) (hM : jx_T y 0 (jx_ent y [.ref a, a1, a2]) [] h none h1) (k : jx_T m (pc + 3) ls rest h1 v h2) : jx_T m pc ls (a2 :: a1 :: .ref a :: rest) h v h2 := by
  subst hk
  exact jx_T.spec hr hx rfl hc rfl hl hM k
theorem kc_initNet {a : Nat} (ha : 35 ≤ a) (hg : g a = some (.inr (4, jx_dfl.getD 4 []))) (sz : Int32) (s1 s2 s3 : Nat) : jx_T 30 0 (jx_ent 30 [.ref a, .int sz, .ref s1, .ref s2, .ref s3]) [] (hc W g nx s) none (hc W (jx_up g a (.inr (4, [.int sz, .ref s1, .ref s2, .ref s3]))) nx s) := by
  have t : jx_T 30 0 (jx_ent 30 [.ref a, .int sz, .ref s1, .ref s2, .ref s3]) [] (hc W (jx_up g a (.inr (4, jx_dfl.getD 4 []))) nx s) none (hc W (jx_up g a (.inr (4, [.int sz, .ref s1, .ref s2, .ref s3]))) nx s) := by
    show jx_T 30 0 [.ref a, .int sz, .ref s1, .ref s2, .ref s3] [] _ _ _
    refine jx_T.step (pc' := 1) (st' := [_]) rfl rfl ?_
    refine jx_T.step (pc' := 4) (st' := []) rfl rfl ?_
    refine jx_T.step (pc' := 5) (st' := [_]) rfl rfl ?_
    refine jx_T.step (pc' := 6) (st' := [_, _]) rfl rfl ?_
    refine cl.putn ha rfl (Nat.le_of_ble_eq_true rfl) rfl ?_
    refine jx_T.step (pc' := 10) (st' := [_]) rfl rfl ?_
    refine jx_T.step (pc' := 11) (st' := [_, _]) rfl rfl ?_
    refine cl.putn ha rfl (Nat.le_of_ble_eq_true rfl) rfl ?_
    refine jx_T.step (pc' := 15) (st' := [_]) rfl rfl ?_
    refine jx_T.step (pc' := 16) (st' := [_, _]) rfl rfl ?_
    refine cl.putn ha rfl (Nat.le_of_ble_eq_true rfl) rfl ?_
    refine jx_T.step (pc' := 20) (st' := [_]) rfl rfl ?_
    refine jx_T.step (pc' := 22) (st' := [_, _]) rfl rfl ?_
    refine cl.putn ha rfl (Nat.le_of_ble_eq_true rfl) rfl ?_
    exact jx_T.ret rfl rfl
  rw [jx_up_id hg] at t
  exact t
theorem kc_initSheet {a : Nat} (ha : 35 ≤ a) (hg : g a = some (.inr (8, jx_dfl.getD 8 []))) (fm : Int32) (s1 : Nat) : jx_T 63 0 (jx_ent 63 [.ref a, .int fm, .ref s1]) [] (hc W g nx s) none (hc W (jx_up g a (.inr (8, [.int fm, .ref s1]))) nx s) := by
  have t : jx_T 63 0 (jx_ent 63 [.ref a, .int fm, .ref s1]) [] (hc W (jx_up g a (.inr (8, jx_dfl.getD 8 []))) nx s) none (hc W (jx_up g a (.inr (8, [.int fm, .ref s1]))) nx s) := by
    show jx_T 63 0 [.ref a, .int fm, .ref s1] [] _ _ _
    refine jx_T.step (pc' := 1) (st' := [_]) rfl rfl ?_
    refine jx_T.step (pc' := 4) (st' := []) rfl rfl ?_
    refine jx_T.step (pc' := 5) (st' := [_]) rfl rfl ?_
    refine jx_T.step (pc' := 6) (st' := [_, _]) rfl rfl ?_
    refine cl.putn ha rfl (Nat.le_of_ble_eq_true rfl) rfl ?_
    refine jx_T.step (pc' := 10) (st' := [_]) rfl rfl ?_
    refine jx_T.step (pc' := 11) (st' := [_, _]) rfl rfl ?_
    refine cl.putn ha rfl (Nat.le_of_ble_eq_true rfl) rfl ?_
    exact jx_T.ret rfl rfl
  rw [jx_up_id hg] at t
  exact t
end CLM
