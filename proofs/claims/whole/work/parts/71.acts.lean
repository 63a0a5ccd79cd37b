/-! the works: what is made anew; act, gap -/
theorem jx_up_up (g : Nat → Option jx_E) (a : Nat) (e e2 : jx_E) : jx_up (jx_up g a e) a e2 = jx_up g a e2 := by
  funext q
  unfold jx_up
  by_cases h : q = a
  · rw [if_pos h, if_pos h]
  · rw [if_neg h, if_neg h, if_neg h]
theorem jx_up_id {g : Nat → Option jx_E} {a : Nat} {e : jx_E} (h : g a = some e) : jx_up g a e = g := by
  funext q
  unfold jx_up
  by_cases z : q = a
  · rw [if_pos z, z, h]
  · rw [if_neg z]
section CLN
variable {W : cw} {g : Nat → Option jx_E} {nx s : Nat} {m pc : Nat} {ls st : List Value} {v : Option Value} {h h2 : jx_H}
theorem cl.newo (hn : 35 ≤ nx) {n len x y : Nat} {vv : Value} (hr : jx_rc m pc = some (.new n, len, x, y, vv)) (k : jx_T m (pc + 3) ls (.ref nx :: st) (hc W (jx_up g nx (.inr (x, jx_dfl.getD x []))) (nx + 1) (s + (jx_dfl.getD x []).length)) v h2) : jx_T m pc ls st (hc W g nx s) v h2 := by
  refine jx_T.step (pc' := pc + 3) (ls' := ls) (st' := .ref nx :: st) hr rfl ?_
  show jx_T m (pc + 3) ls (.ref nx :: st) (jx_new (hc W g nx s) (jx_dfl.getD x []).length (.inr (x, jx_dfl.getD x []))) v h2
  rw [hc_new hn]
  exact k
theorem cl.putn {a : Nat} (ha : 35 ≤ a) {n x y : Nat} {vv w : Value} {fs : List Value} (hr : jx_rc m pc = some (.putfield n, 3, x, y, vv)) (hl : y < fs.length) (hf : jx_fit ((jx_fty.getD x []).getD y .int) w = true) (k : jx_T m (pc + 3) ls st (hc W (jx_up g a (.inr (x, fs.set y w))) nx s) v h2) : jx_T m pc ls (w :: .ref a :: st) (hc W (jx_up g a (.inr (x, fs))) nx s) v h2 := by
  refine jx_T.putf hr ((hc_out ha).trans jx_up_eq) hl hf ?_
  rw [hc_seto ha, jx_up_up]
  exact k
theorem cl.aastR {b : Nat} (hb : 35 ≤ b) {fs : List Value} (hg : g b = some (.inr (9, fs))) {x y : Nat} {vv : Value} {i : Int32} (hr : jx_rc m pc = some (.aastore, 1, x, y, vv)) (hi : ¬ (i < 0) ∧ i.toNatClampNeg < 201) (k : jx_T m (pc + 1) ls st (hc (cw_P W (va_up W.2.2.2.2.1 i.toNatClampNeg (some b))) g nx s) v h2) : jx_T m pc ls (.ref b :: .int i :: .ref 2 :: st) (hc W g nx s) v h2 := by
  refine jx_T.aast hr ((hc_in (by decide)).trans (cw_c2 _)) ((hc_out hb).trans hg) ⟨by decide, rfl⟩ hi ?_
  rw [hc_set (by decide) (cw_s2 _ _)]
  exact k
theorem cl.p6V {n len x y a : Nat} {a1 a2 a3 a4 a5 a6 : Value} {k0 : Int32} {rest : List Value} {h1 : jx_H} (hr : jx_rc m pc = some (.invokespecial n, len, x, y, .int k0)) (hx : ¬ x = 4) (hk : k0 = 6) (hc : jx_cat rest ≤ 8) (hl : (jx_args [.ref a, a1, a2, a3, a4, a5, a6]).length ≤ (jx_mi y).2.2.1) (hM : jx_T y 0 (jx_ent y [.ref a, a1, a2, a3, a4, a5, a6]) [] h none h1) (k : jx_T m (pc + 3) ls rest h1 v h2) : jx_T m pc ls (a6 :: a5 :: a4 :: a3 :: a2 :: a1 :: .ref a :: rest) h v h2 := by
  subst hk
  exact jx_T.spec hr hx rfl hc rfl hl hM k
theorem kc_initState {a : Nat} (ha : 35 ≤ a) (hg : g a = some (.inr (9, jx_dfl.getD 9 []))) (gp sz : Int32) (s1 s2 s3 s4 : Nat) : jx_T 70 0 (jx_ent 70 [.ref a, .int gp, .int sz, .ref s1, .ref s2, .ref s3, .ref s4]) [] (hc W g nx s) none (hc W (jx_up g a (.inr (9, [.int gp, .int sz, .ref s1, .ref s2, .ref s3, .ref s4]))) nx s) := by
  have t : jx_T 70 0 (jx_ent 70 [.ref a, .int gp, .int sz, .ref s1, .ref s2, .ref s3, .ref s4]) [] (hc W (jx_up g a (.inr (9, jx_dfl.getD 9 []))) nx s) none (hc W (jx_up g a (.inr (9, [.int gp, .int sz, .ref s1, .ref s2, .ref s3, .ref s4]))) nx s) := by
    show jx_T 70 0 [.ref a, .int gp, .int sz, .ref s1, .ref s2, .ref s3, .ref s4] [] _ _ _
    refine jx_T.step (pc' := 1) (st' := [_]) rfl rfl ?_
    refine jx_T.step (pc' := 4) (st' := []) rfl rfl ?_
    refine jx_T.step (pc' := 5) (st' := [_]) rfl rfl ?_
    refine jx_T.step (pc' := 6) (st' := [_, _]) rfl rfl ?_
    refine cl.putn ha rfl (Nat.le_of_ble_eq_true rfl) rfl ?_
    refine jx_T.step (pc' := 10) (st' := [_]) rfl rfl ?_
    refine jx_T.step (pc' := 11) (st' := [_, _]) rfl rfl ?_
    refine cl.putn ha rfl (Nat.le_of_ble_eq_true rfl) rfl ?_
    refine jx_T.step (pc' := 15) (st' := [_]) rfl rfl ?_
    refine jx_T.step (pc' := 16) (st' := [_, _]) rfl rfl ?_
    refine cl.putn ha rfl (Nat.le_of_ble_eq_true rfl) rfl ?_
    refine jx_T.step (pc' := 20) (st' := [_]) rfl rfl ?_
    refine jx_T.step (pc' := 22) (st' := [_, _]) rfl rfl ?_
    refine cl.putn ha rfl (Nat.le_of_ble_eq_true rfl) rfl ?_
    refine jx_T.step (pc' := 26) (st' := [_]) rfl rfl ?_
    refine jx_T.step (pc' := 28) (st' := [_, _]) rfl rfl ?_
    refine cl.putn ha rfl (Nat.le_of_ble_eq_true rfl) rfl ?_
    refine jx_T.step (pc' := 32) (st' := [_]) rfl rfl ?_
    refine jx_T.step (pc' := 34) (st' := [_, _]) rfl rfl ?_
    refine cl.putn ha rfl (Nat.le_of_ble_eq_true rfl) rfl ?_
    exact jx_T.ret rfl rfl
  rw [jx_up_id hg] at t
  exact t
end CLN
