/-! the law's loop, over what stands before and after each call -/
abbrev lw_ls (i : Nat) : List Value := [.ref 0, .ref 1, .ref 56, .int (nI i)]
def lw_sc (L : Nat) (xs : Nat → Int32) (h : jx_H) : Prop := h.2.2 0 = some (.inl (98, L, .inl xs)) ∧ (∃ fs, h.2.2 1 = some (.inr (11, fs))) ∧ ∃ fs, h.2.2 56 = some (.inr (12, fs))
def lw_o (P : Nat → jx_H → Prop) (L : Nat) (xs : Nat → Int32) (mc mr : Nat) (args : List Value) (ty : Bool) : Prop := ∀ k h, P k h → ∃ (v : Value) (h2 h3 : jx_H), ((ty = true ∧ ∃ x : Int32, v = .int x) ∨ (ty = false ∧ ∃ x : Int64, v = .long x)) ∧ jx_T mc 0 (jx_ent mc (.ref 1 :: args)) [] h (some v) h2 ∧ lw_sc L xs h2 ∧ jx_T mr 0 (jx_ent mr (.ref 56 :: args)) [] h2 (some v) h3 ∧ P (k + 1) h3
section
variable {L : Nat} {xs : Nat → Int32} {i pc : Nat} {st : List Value} {h h1 h2 h3 : jx_H} {v : Option Value}
theorem lw_A (j : Nat) (hj : j ≤ 5) (hsc : lw_sc L xs h) (hi : i + 6 ≤ L) (hL : L ≤ 3072) (hr0 : jx_rc 215 pc = some (.aload_n 0, 1, 0, 0, .null)) (hr1 : jx_rc 215 (pc + 1) = some (.iload_n 3, 1, 3, 0, .null)) (hr2 : ∃ c x y, jx_rc 215 (pc + 2) = some (.iconst c, 1, x, y, .int (nI j))) (hr3 : jx_rc 215 (pc + 3) = some (.iadd, 1, 0, 0, .null)) (hr4 : jx_rc 215 (pc + 4) = some (.iaload, 1, 0, 0, .null)) (k : jx_T 215 (pc + 5) (lw_ls i) (.int (xs (i + j)) :: st) h v h2) : jx_T 215 pc (lw_ls i) st h v h2 := by
  obtain ⟨c, x, y, hr2⟩ := hr2
  refine jx_T.step (pc' := pc + 1) hr0 rfl ?_
  refine jx_T.step (pc' := pc + 2) hr1 rfl ?_
  refine jx_T.step (pc' := pc + 3) hr2 rfl ?_
  refine jx_T.step (pc' := pc + 4) (st' := .int (nI i + nI j) :: .ref 0 :: st) hr3 rfl ?_
  rw [nI_add]
  refine jx_T.iald hr4 hsc.1 (Or.inr rfl) (rf_ix (by omega) (by omega)) ?_
  rw [nI_clamp (by omega)]
  exact k
theorem lw_B {x1 : Nat} {a : Int32} (hr0 : ∃ q l y v, jx_rc 215 pc = some (.ifCond .eq q, l, x1, y, v)) (hr1 : ∃ c x y, jx_rc 215 (pc + 3) = some (.iconst c, 1, x, y, .int 1)) (hr2 : ∃ q l y v, jx_rc 215 (pc + 4) = some (.goto q, l, x1 + 1, y, v)) (hr3 : ∃ c x y, jx_rc 215 x1 = some (.iconst c, 1, x, y, .int 0)) (k : jx_T 215 (x1 + 1) (lw_ls i) (.int (rf_o (¬ a = 0)) :: st) h v h2) : jx_T 215 pc (lw_ls i) (.int a :: st) h v h2 := by
  obtain ⟨q0, l0, y0, v0, hr0⟩ := hr0
  obtain ⟨c1, a1, y1, hr1⟩ := hr1
  obtain ⟨q2, l2, y2, v2, hr2⟩ := hr2
  obtain ⟨c3, a3, y3, hr3⟩ := hr3
  refine cl.br hr0 (jx_br_eq _ _) (fun z => ?_) (fun z => ?_)
  · rw [rf_of (fun q => q z)] at k
    exact jx_T.step (pc' := x1 + 1) hr3 rfl k
  · rw [rf_ot z] at k
    refine jx_T.step (pc' := pc + 4) hr1 rfl ?_
    exact jx_T.step (pc' := x1 + 1) hr2 rfl k
theorem lw_V {n len x y a c : Nat} {k0 : Int32} {vs rest : List Value} {r : Value} (hr : jx_rc 215 pc = some (.invokevirtual n, len, x, y, .int k0)) (hx : ¬ x = 5) (hd : st.drop k0.toNatClampNeg = .ref a :: rest) (he : ∃ fs, h.2.2 a = some (.inr (c, fs))) (hq : jx_cat rest ≤ 8 ∧ c = (jx_mi y).2.2.2.2.1) (hv : .ref a :: (st.take k0.toNatClampNeg).reverse = vs) (hl : (jx_args vs).length ≤ (jx_mi y).2.2.1) (hM : jx_T y 0 (jx_ent y vs) [] h (some r) h1) (k : jx_T 215 (pc + 3) (lw_ls i) (r :: rest) h1 v h2) : jx_T 215 pc (lw_ls i) st h v h2 := by
  obtain ⟨fs, he⟩ := he
  exact jx_T.virt hr hx hd he hq hv hl hM k
theorem lw_cmp (x : Int64) : lg_cmp x x = 0 := by
  unfold lg_cmp
  simp
theorem lw_c0 {x : Int32} (hsc : lw_sc L xs h) (hi : i + 6 ≤ L) (hL : L ≤ 3072) (t1 : jx_T 89 0 (jx_ent 89 (.ref 1 :: [.int (xs (i + 1)), .int (xs (i + 2)), .int (xs (i + 3))])) [] h (some (.int x)) h1) (hs2 : lw_sc L xs h1) (t2 : jx_T 134 0 (jx_ent 134 (.ref 56 :: [.int (xs (i + 1)), .int (xs (i + 2)), .int (xs (i + 3))])) [] h1 (some (.int x)) h3) (t : jx_T 215 1349 (lw_ls i) [] h3 v h2) : jx_T 215 172 (lw_ls i) [] h v h2 := by
  refine jx_T.step (pc' := 173) (st' := [_]) rfl rfl ?_
  refine lw_A 1 (by decide) hsc hi hL rfl rfl ⟨_, _, _, rfl⟩ rfl rfl ?_
  refine lw_A 2 (by decide) hsc hi hL rfl rfl ⟨_, _, _, rfl⟩ rfl rfl ?_
  refine lw_A 3 (by decide) hsc hi hL rfl rfl ⟨_, _, _, rfl⟩ rfl rfl ?_
  refine lw_V rfl (by decide) rfl hsc.2.1 ⟨Nat.le_of_ble_eq_true rfl, rfl⟩ rfl (Nat.le_of_ble_eq_true rfl) t1 ?_
  refine jx_T.step (pc' := 192) (st' := [_, _]) rfl rfl ?_
  refine lw_A 1 (by decide) hs2 hi hL rfl rfl ⟨_, _, _, rfl⟩ rfl rfl ?_
  refine lw_A 2 (by decide) hs2 hi hL rfl rfl ⟨_, _, _, rfl⟩ rfl rfl ?_
  refine lw_A 3 (by decide) hs2 hi hL rfl rfl ⟨_, _, _, rfl⟩ rfl rfl ?_
  refine lw_V rfl (by decide) rfl hs2.2.2 ⟨Nat.le_of_ble_eq_true rfl, rfl⟩ rfl (Nat.le_of_ble_eq_true rfl) t2 ?_
  refine cl.bc rfl (jx_br_eq _ _) (fun _ => t) (fun q => absurd rfl q)
theorem lw_c1 {x : Int32} (hsc : lw_sc L xs h) (hi : i + 6 ≤ L) (hL : L ≤ 3072) (t1 : jx_T 93 0 (jx_ent 93 (.ref 1 :: [.int (xs (i + 1)), .int (xs (i + 2)), .int (xs (i + 3))])) [] h (some (.int x)) h1) (hs2 : lw_sc L xs h1) (t2 : jx_T 138 0 (jx_ent 138 (.ref 56 :: [.int (xs (i + 1)), .int (xs (i + 2)), .int (xs (i + 3))])) [] h1 (some (.int x)) h3) (t : jx_T 215 1349 (lw_ls i) [] h3 v h2) : jx_T 215 215 (lw_ls i) [] h v h2 := by
  refine jx_T.step (pc' := 216) (st' := [_]) rfl rfl ?_
  refine lw_A 1 (by decide) hsc hi hL rfl rfl ⟨_, _, _, rfl⟩ rfl rfl ?_
  refine lw_A 2 (by decide) hsc hi hL rfl rfl ⟨_, _, _, rfl⟩ rfl rfl ?_
  refine lw_A 3 (by decide) hsc hi hL rfl rfl ⟨_, _, _, rfl⟩ rfl rfl ?_
  refine lw_V rfl (by decide) rfl hsc.2.1 ⟨Nat.le_of_ble_eq_true rfl, rfl⟩ rfl (Nat.le_of_ble_eq_true rfl) t1 ?_
  refine jx_T.step (pc' := 235) (st' := [_, _]) rfl rfl ?_
  refine lw_A 1 (by decide) hs2 hi hL rfl rfl ⟨_, _, _, rfl⟩ rfl rfl ?_
  refine lw_A 2 (by decide) hs2 hi hL rfl rfl ⟨_, _, _, rfl⟩ rfl rfl ?_
  refine lw_A 3 (by decide) hs2 hi hL rfl rfl ⟨_, _, _, rfl⟩ rfl rfl ?_
  refine lw_V rfl (by decide) rfl hs2.2.2 ⟨Nat.le_of_ble_eq_true rfl, rfl⟩ rfl (Nat.le_of_ble_eq_true rfl) t2 ?_
  refine cl.bc rfl (jx_br_eq _ _) (fun _ => t) (fun q => absurd rfl q)
theorem lw_c2 {x : Int32} (hsc : lw_sc L xs h) (hi : i + 6 ≤ L) (hL : L ≤ 3072) (t1 : jx_T 94 0 (jx_ent 94 (.ref 1 :: [.int (xs (i + 1))])) [] h (some (.int x)) h1) (hs2 : lw_sc L xs h1) (t2 : jx_T 141 0 (jx_ent 141 (.ref 56 :: [.int (xs (i + 1))])) [] h1 (some (.int x)) h3) (t : jx_T 215 1349 (lw_ls i) [] h3 v h2) : jx_T 215 258 (lw_ls i) [] h v h2 := by
  refine jx_T.step (pc' := 259) (st' := [_]) rfl rfl ?_
  refine lw_A 1 (by decide) hsc hi hL rfl rfl ⟨_, _, _, rfl⟩ rfl rfl ?_
  refine lw_V rfl (by decide) rfl hsc.2.1 ⟨Nat.le_of_ble_eq_true rfl, rfl⟩ rfl (Nat.le_of_ble_eq_true rfl) t1 ?_
  refine jx_T.step (pc' := 268) (st' := [_, _]) rfl rfl ?_
  refine lw_A 1 (by decide) hs2 hi hL rfl rfl ⟨_, _, _, rfl⟩ rfl rfl ?_
  refine lw_V rfl (by decide) rfl hs2.2.2 ⟨Nat.le_of_ble_eq_true rfl, rfl⟩ rfl (Nat.le_of_ble_eq_true rfl) t2 ?_
  refine cl.bc rfl (jx_br_eq _ _) (fun _ => t) (fun q => absurd rfl q)
theorem lw_c3 {x : Int32} (hsc : lw_sc L xs h) (hi : i + 6 ≤ L) (hL : L ≤ 3072) (t1 : jx_T 95 0 (jx_ent 95 (.ref 1 :: [.int (xs (i + 1)), .int (xs (i + 2)), .int (xs (i + 3)), .int (xs (i + 4)), .int (xs (i + 5))])) [] h (some (.int x)) h1) (hs2 : lw_sc L xs h1) (t2 : jx_T 142 0 (jx_ent 142 (.ref 56 :: [.int (xs (i + 1)), .int (xs (i + 2)), .int (xs (i + 3)), .int (xs (i + 4)), .int (xs (i + 5))])) [] h1 (some (.int x)) h3) (t : jx_T 215 1349 (lw_ls i) [] h3 v h2) : jx_T 215 281 (lw_ls i) [] h v h2 := by
  refine jx_T.step (pc' := 282) (st' := [_]) rfl rfl ?_
  refine lw_A 1 (by decide) hsc hi hL rfl rfl ⟨_, _, _, rfl⟩ rfl rfl ?_
  refine lw_A 2 (by decide) hsc hi hL rfl rfl ⟨_, _, _, rfl⟩ rfl rfl ?_
  refine lw_A 3 (by decide) hsc hi hL rfl rfl ⟨_, _, _, rfl⟩ rfl rfl ?_
  refine lw_A 4 (by decide) hsc hi hL rfl rfl ⟨_, _, _, rfl⟩ rfl rfl ?_
  refine lw_A 5 (by decide) hsc hi hL rfl rfl ⟨_, _, _, rfl⟩ rfl rfl ?_
  refine lw_V rfl (by decide) rfl hsc.2.1 ⟨Nat.le_of_ble_eq_true rfl, rfl⟩ rfl (Nat.le_of_ble_eq_true rfl) t1 ?_
  refine jx_T.step (pc' := 311) (st' := [_, _]) rfl rfl ?_
  refine lw_A 1 (by decide) hs2 hi hL rfl rfl ⟨_, _, _, rfl⟩ rfl rfl ?_
  refine lw_A 2 (by decide) hs2 hi hL rfl rfl ⟨_, _, _, rfl⟩ rfl rfl ?_
  refine lw_A 3 (by decide) hs2 hi hL rfl rfl ⟨_, _, _, rfl⟩ rfl rfl ?_
  refine lw_A 4 (by decide) hs2 hi hL rfl rfl ⟨_, _, _, rfl⟩ rfl rfl ?_
  refine lw_A 5 (by decide) hs2 hi hL rfl rfl ⟨_, _, _, rfl⟩ rfl rfl ?_
  refine lw_V rfl (by decide) rfl hs2.2.2 ⟨Nat.le_of_ble_eq_true rfl, rfl⟩ rfl (Nat.le_of_ble_eq_true rfl) t2 ?_
  refine cl.bc rfl (jx_br_eq _ _) (fun _ => t) (fun q => absurd rfl q)
theorem lw_c4 {x : Int32} (hsc : lw_sc L xs h) (hi : i + 6 ≤ L) (hL : L ≤ 3072) (t1 : jx_T 96 0 (jx_ent 96 (.ref 1 :: [.int (xs (i + 1)), .int (xs (i + 2)), .int (xs (i + 3)), .int (xs (i + 4))])) [] h (some (.int x)) h1) (hs2 : lw_sc L xs h1) (t2 : jx_T 144 0 (jx_ent 144 (.ref 56 :: [.int (xs (i + 1)), .int (xs (i + 2)), .int (xs (i + 3)), .int (xs (i + 4))])) [] h1 (some (.int x)) h3) (t : jx_T 215 1349 (lw_ls i) [] h3 v h2) : jx_T 215 344 (lw_ls i) [] h v h2 := by
  refine jx_T.step (pc' := 345) (st' := [_]) rfl rfl ?_
  refine lw_A 1 (by decide) hsc hi hL rfl rfl ⟨_, _, _, rfl⟩ rfl rfl ?_
  refine lw_A 2 (by decide) hsc hi hL rfl rfl ⟨_, _, _, rfl⟩ rfl rfl ?_
  refine lw_A 3 (by decide) hsc hi hL rfl rfl ⟨_, _, _, rfl⟩ rfl rfl ?_
  refine lw_A 4 (by decide) hsc hi hL rfl rfl ⟨_, _, _, rfl⟩ rfl rfl ?_
  refine lw_V rfl (by decide) rfl hsc.2.1 ⟨Nat.le_of_ble_eq_true rfl, rfl⟩ rfl (Nat.le_of_ble_eq_true rfl) t1 ?_
  refine jx_T.step (pc' := 369) (st' := [_, _]) rfl rfl ?_
  refine lw_A 1 (by decide) hs2 hi hL rfl rfl ⟨_, _, _, rfl⟩ rfl rfl ?_
  refine lw_A 2 (by decide) hs2 hi hL rfl rfl ⟨_, _, _, rfl⟩ rfl rfl ?_
  refine lw_A 3 (by decide) hs2 hi hL rfl rfl ⟨_, _, _, rfl⟩ rfl rfl ?_
  refine lw_A 4 (by decide) hs2 hi hL rfl rfl ⟨_, _, _, rfl⟩ rfl rfl ?_
  refine lw_V rfl (by decide) rfl hs2.2.2 ⟨Nat.le_of_ble_eq_true rfl, rfl⟩ rfl (Nat.le_of_ble_eq_true rfl) t2 ?_
  refine cl.bc rfl (jx_br_eq _ _) (fun _ => t) (fun q => absurd rfl q)
theorem lw_c5 {x : Int32} (hsc : lw_sc L xs h) (hi : i + 6 ≤ L) (hL : L ≤ 3072) (t1 : jx_T 100 0 (jx_ent 100 (.ref 1 :: [.int (xs (i + 1)), .int (rf_o (¬ (xs (i + 2)) = 0)), .int (xs (i + 3)), .int (xs (i + 4))])) [] h (some (.int x)) h1) (hs2 : lw_sc L xs h1) (t2 : jx_T 147 0 (jx_ent 147 (.ref 56 :: [.int (xs (i + 1)), .int (rf_o (¬ (xs (i + 2)) = 0)), .int (xs (i + 3)), .int (xs (i + 4))])) [] h1 (some (.int x)) h3) (t : jx_T 215 1349 (lw_ls i) [] h3 v h2) : jx_T 215 397 (lw_ls i) [] h v h2 := by
  refine jx_T.step (pc' := 398) (st' := [_]) rfl rfl ?_
  refine lw_A 1 (by decide) hsc hi hL rfl rfl ⟨_, _, _, rfl⟩ rfl rfl ?_
  refine lw_A 2 (by decide) hsc hi hL rfl rfl ⟨_, _, _, rfl⟩ rfl rfl ?_
  refine lw_B ⟨_, _, _, _, rfl⟩ ⟨_, _, _, rfl⟩ ⟨_, _, _, _, rfl⟩ ⟨_, _, _, rfl⟩ ?_
  refine lw_A 3 (by decide) hsc hi hL rfl rfl ⟨_, _, _, rfl⟩ rfl rfl ?_
  refine lw_A 4 (by decide) hsc hi hL rfl rfl ⟨_, _, _, rfl⟩ rfl rfl ?_
  refine lw_V rfl (by decide) rfl hsc.2.1 ⟨Nat.le_of_ble_eq_true rfl, rfl⟩ rfl (Nat.le_of_ble_eq_true rfl) t1 ?_
  refine jx_T.step (pc' := 430) (st' := [_, _]) rfl rfl ?_
  refine lw_A 1 (by decide) hs2 hi hL rfl rfl ⟨_, _, _, rfl⟩ rfl rfl ?_
  refine lw_A 2 (by decide) hs2 hi hL rfl rfl ⟨_, _, _, rfl⟩ rfl rfl ?_
  refine lw_B ⟨_, _, _, _, rfl⟩ ⟨_, _, _, rfl⟩ ⟨_, _, _, _, rfl⟩ ⟨_, _, _, rfl⟩ ?_
  refine lw_A 3 (by decide) hs2 hi hL rfl rfl ⟨_, _, _, rfl⟩ rfl rfl ?_
  refine lw_A 4 (by decide) hs2 hi hL rfl rfl ⟨_, _, _, rfl⟩ rfl rfl ?_
  refine lw_V rfl (by decide) rfl hs2.2.2 ⟨Nat.le_of_ble_eq_true rfl, rfl⟩ rfl (Nat.le_of_ble_eq_true rfl) t2 ?_
  refine cl.bc rfl (jx_br_eq _ _) (fun _ => t) (fun q => absurd rfl q)
theorem lw_c6 {x : Int32} (hsc : lw_sc L xs h) (hi : i + 6 ≤ L) (hL : L ≤ 3072) (t1 : jx_T 101 0 (jx_ent 101 (.ref 1 :: [.int (xs (i + 1)), .int (rf_o (¬ (xs (i + 2)) = 0)), .int (xs (i + 3)), .int (xs (i + 4)), .int (xs (i + 5))])) [] h (some (.int x)) h1) (hs2 : lw_sc L xs h1) (t2 : jx_T 148 0 (jx_ent 148 (.ref 56 :: [.int (xs (i + 1)), .int (rf_o (¬ (xs (i + 2)) = 0)), .int (xs (i + 3)), .int (xs (i + 4)), .int (xs (i + 5))])) [] h1 (some (.int x)) h3) (t : jx_T 215 1349 (lw_ls i) [] h3 v h2) : jx_T 215 466 (lw_ls i) [] h v h2 := by
  refine jx_T.step (pc' := 467) (st' := [_]) rfl rfl ?_
  refine lw_A 1 (by decide) hsc hi hL rfl rfl ⟨_, _, _, rfl⟩ rfl rfl ?_
  refine lw_A 2 (by decide) hsc hi hL rfl rfl ⟨_, _, _, rfl⟩ rfl rfl ?_
  refine lw_B ⟨_, _, _, _, rfl⟩ ⟨_, _, _, rfl⟩ ⟨_, _, _, _, rfl⟩ ⟨_, _, _, rfl⟩ ?_
  refine lw_A 3 (by decide) hsc hi hL rfl rfl ⟨_, _, _, rfl⟩ rfl rfl ?_
  refine lw_A 4 (by decide) hsc hi hL rfl rfl ⟨_, _, _, rfl⟩ rfl rfl ?_
  refine lw_A 5 (by decide) hsc hi hL rfl rfl ⟨_, _, _, rfl⟩ rfl rfl ?_
  refine lw_V rfl (by decide) rfl hsc.2.1 ⟨Nat.le_of_ble_eq_true rfl, rfl⟩ rfl (Nat.le_of_ble_eq_true rfl) t1 ?_
  refine jx_T.step (pc' := 504) (st' := [_, _]) rfl rfl ?_
  refine lw_A 1 (by decide) hs2 hi hL rfl rfl ⟨_, _, _, rfl⟩ rfl rfl ?_
  refine lw_A 2 (by decide) hs2 hi hL rfl rfl ⟨_, _, _, rfl⟩ rfl rfl ?_
  refine lw_B ⟨_, _, _, _, rfl⟩ ⟨_, _, _, rfl⟩ ⟨_, _, _, _, rfl⟩ ⟨_, _, _, rfl⟩ ?_
  refine lw_A 3 (by decide) hs2 hi hL rfl rfl ⟨_, _, _, rfl⟩ rfl rfl ?_
  refine lw_A 4 (by decide) hs2 hi hL rfl rfl ⟨_, _, _, rfl⟩ rfl rfl ?_
  refine lw_A 5 (by decide) hs2 hi hL rfl rfl ⟨_, _, _, rfl⟩ rfl rfl ?_
  refine lw_V rfl (by decide) rfl hs2.2.2 ⟨Nat.le_of_ble_eq_true rfl, rfl⟩ rfl (Nat.le_of_ble_eq_true rfl) t2 ?_
  refine cl.bc rfl (jx_br_eq _ _) (fun _ => t) (fun q => absurd rfl q)
theorem lw_c7 {x : Int32} (hsc : lw_sc L xs h) (hi : i + 6 ≤ L) (hL : L ≤ 3072) (t1 : jx_T 102 0 (jx_ent 102 (.ref 1 :: [.int (rf_o (¬ (xs (i + 1)) = 0)), .int (xs (i + 2)), .int (xs (i + 3))])) [] h (some (.int x)) h1) (hs2 : lw_sc L xs h1) (t2 : jx_T 149 0 (jx_ent 149 (.ref 56 :: [.int (rf_o (¬ (xs (i + 1)) = 0)), .int (xs (i + 2)), .int (xs (i + 3))])) [] h1 (some (.int x)) h3) (t : jx_T 215 1349 (lw_ls i) [] h3 v h2) : jx_T 215 545 (lw_ls i) [] h v h2 := by
  refine jx_T.step (pc' := 546) (st' := [_]) rfl rfl ?_
  refine lw_A 1 (by decide) hsc hi hL rfl rfl ⟨_, _, _, rfl⟩ rfl rfl ?_
  refine lw_B ⟨_, _, _, _, rfl⟩ ⟨_, _, _, rfl⟩ ⟨_, _, _, _, rfl⟩ ⟨_, _, _, rfl⟩ ?_
  refine lw_A 2 (by decide) hsc hi hL rfl rfl ⟨_, _, _, rfl⟩ rfl rfl ?_
  refine lw_A 3 (by decide) hsc hi hL rfl rfl ⟨_, _, _, rfl⟩ rfl rfl ?_
  refine lw_V rfl (by decide) rfl hsc.2.1 ⟨Nat.le_of_ble_eq_true rfl, rfl⟩ rfl (Nat.le_of_ble_eq_true rfl) t1 ?_
  refine jx_T.step (pc' := 573) (st' := [_, _]) rfl rfl ?_
  refine lw_A 1 (by decide) hs2 hi hL rfl rfl ⟨_, _, _, rfl⟩ rfl rfl ?_
  refine lw_B ⟨_, _, _, _, rfl⟩ ⟨_, _, _, rfl⟩ ⟨_, _, _, _, rfl⟩ ⟨_, _, _, rfl⟩ ?_
  refine lw_A 2 (by decide) hs2 hi hL rfl rfl ⟨_, _, _, rfl⟩ rfl rfl ?_
  refine lw_A 3 (by decide) hs2 hi hL rfl rfl ⟨_, _, _, rfl⟩ rfl rfl ?_
  refine lw_V rfl (by decide) rfl hs2.2.2 ⟨Nat.le_of_ble_eq_true rfl, rfl⟩ rfl (Nat.le_of_ble_eq_true rfl) t2 ?_
  refine cl.bc rfl (jx_br_eq _ _) (fun _ => t) (fun q => absurd rfl q)
theorem lw_c8 {x : Int32} (hsc : lw_sc L xs h) (hi : i + 6 ≤ L) (hL : L ≤ 3072) (t1 : jx_T 103 0 (jx_ent 103 (.ref 1 :: [.int (xs (i + 1))])) [] h (some (.int x)) h1) (hs2 : lw_sc L xs h1) (t2 : jx_T 150 0 (jx_ent 150 (.ref 56 :: [.int (xs (i + 1))])) [] h1 (some (.int x)) h3) (t : jx_T 215 1349 (lw_ls i) [] h3 v h2) : jx_T 215 604 (lw_ls i) [] h v h2 := by
  refine jx_T.step (pc' := 605) (st' := [_]) rfl rfl ?_
  refine lw_A 1 (by decide) hsc hi hL rfl rfl ⟨_, _, _, rfl⟩ rfl rfl ?_
  refine lw_V rfl (by decide) rfl hsc.2.1 ⟨Nat.le_of_ble_eq_true rfl, rfl⟩ rfl (Nat.le_of_ble_eq_true rfl) t1 ?_
  refine jx_T.step (pc' := 614) (st' := [_, _]) rfl rfl ?_
  refine lw_A 1 (by decide) hs2 hi hL rfl rfl ⟨_, _, _, rfl⟩ rfl rfl ?_
  refine lw_V rfl (by decide) rfl hs2.2.2 ⟨Nat.le_of_ble_eq_true rfl, rfl⟩ rfl (Nat.le_of_ble_eq_true rfl) t2 ?_
  refine cl.bc rfl (jx_br_eq _ _) (fun _ => t) (fun q => absurd rfl q)
theorem lw_c9 {x : Int32} (hsc : lw_sc L xs h) (hi : i + 6 ≤ L) (hL : L ≤ 3072) (t1 : jx_T 104 0 (jx_ent 104 (.ref 1 :: [.int (xs (i + 1)), .int (xs (i + 2)), .int (rf_o (¬ (xs (i + 3)) = 0))])) [] h (some (.int x)) h1) (hs2 : lw_sc L xs h1) (t2 : jx_T 151 0 (jx_ent 151 (.ref 56 :: [.int (xs (i + 1)), .int (xs (i + 2)), .int (rf_o (¬ (xs (i + 3)) = 0))])) [] h1 (some (.int x)) h3) (t : jx_T 215 1349 (lw_ls i) [] h3 v h2) : jx_T 215 627 (lw_ls i) [] h v h2 := by
  refine jx_T.step (pc' := 628) (st' := [_]) rfl rfl ?_
  refine lw_A 1 (by decide) hsc hi hL rfl rfl ⟨_, _, _, rfl⟩ rfl rfl ?_
  refine lw_A 2 (by decide) hsc hi hL rfl rfl ⟨_, _, _, rfl⟩ rfl rfl ?_
  refine lw_A 3 (by decide) hsc hi hL rfl rfl ⟨_, _, _, rfl⟩ rfl rfl ?_
  refine lw_B ⟨_, _, _, _, rfl⟩ ⟨_, _, _, rfl⟩ ⟨_, _, _, _, rfl⟩ ⟨_, _, _, rfl⟩ ?_
  refine lw_V rfl (by decide) rfl hsc.2.1 ⟨Nat.le_of_ble_eq_true rfl, rfl⟩ rfl (Nat.le_of_ble_eq_true rfl) t1 ?_
  refine jx_T.step (pc' := 655) (st' := [_, _]) rfl rfl ?_
  refine lw_A 1 (by decide) hs2 hi hL rfl rfl ⟨_, _, _, rfl⟩ rfl rfl ?_
  refine lw_A 2 (by decide) hs2 hi hL rfl rfl ⟨_, _, _, rfl⟩ rfl rfl ?_
  refine lw_A 3 (by decide) hs2 hi hL rfl rfl ⟨_, _, _, rfl⟩ rfl rfl ?_
  refine lw_B ⟨_, _, _, _, rfl⟩ ⟨_, _, _, rfl⟩ ⟨_, _, _, _, rfl⟩ ⟨_, _, _, rfl⟩ ?_
  refine lw_V rfl (by decide) rfl hs2.2.2 ⟨Nat.le_of_ble_eq_true rfl, rfl⟩ rfl (Nat.le_of_ble_eq_true rfl) t2 ?_
  refine cl.bc rfl (jx_br_eq _ _) (fun _ => t) (fun q => absurd rfl q)
theorem lw_c10 {x : Int32} (hsc : lw_sc L xs h) (hi : i + 6 ≤ L) (hL : L ≤ 3072) (t1 : jx_T 105 0 (jx_ent 105 (.ref 1 :: [.int (xs (i + 1)), .int (xs (i + 2)), .int (xs (i + 3)), .int (xs (i + 4))])) [] h (some (.int x)) h1) (hs2 : lw_sc L xs h1) (t2 : jx_T 177 0 (jx_ent 177 (.ref 56 :: [.int (xs (i + 1)), .int (xs (i + 2)), .int (xs (i + 3)), .int (xs (i + 4))])) [] h1 (some (.int x)) h3) (t : jx_T 215 1349 (lw_ls i) [] h3 v h2) : jx_T 215 686 (lw_ls i) [] h v h2 := by
  refine jx_T.step (pc' := 687) (st' := [_]) rfl rfl ?_
  refine lw_A 1 (by decide) hsc hi hL rfl rfl ⟨_, _, _, rfl⟩ rfl rfl ?_
  refine lw_A 2 (by decide) hsc hi hL rfl rfl ⟨_, _, _, rfl⟩ rfl rfl ?_
  refine lw_A 3 (by decide) hsc hi hL rfl rfl ⟨_, _, _, rfl⟩ rfl rfl ?_
  refine lw_A 4 (by decide) hsc hi hL rfl rfl ⟨_, _, _, rfl⟩ rfl rfl ?_
  refine lw_V rfl (by decide) rfl hsc.2.1 ⟨Nat.le_of_ble_eq_true rfl, rfl⟩ rfl (Nat.le_of_ble_eq_true rfl) t1 ?_
  refine jx_T.step (pc' := 711) (st' := [_, _]) rfl rfl ?_
  refine lw_A 1 (by decide) hs2 hi hL rfl rfl ⟨_, _, _, rfl⟩ rfl rfl ?_
  refine lw_A 2 (by decide) hs2 hi hL rfl rfl ⟨_, _, _, rfl⟩ rfl rfl ?_
  refine lw_A 3 (by decide) hs2 hi hL rfl rfl ⟨_, _, _, rfl⟩ rfl rfl ?_
  refine lw_A 4 (by decide) hs2 hi hL rfl rfl ⟨_, _, _, rfl⟩ rfl rfl ?_
  refine lw_V rfl (by decide) rfl hs2.2.2 ⟨Nat.le_of_ble_eq_true rfl, rfl⟩ rfl (Nat.le_of_ble_eq_true rfl) t2 ?_
  refine cl.bc rfl (jx_br_eq _ _) (fun _ => t) (fun q => absurd rfl q)
theorem lw_c11 {x : Int32} (hsc : lw_sc L xs h) (hi : i + 6 ≤ L) (hL : L ≤ 3072) (t1 : jx_T 106 0 (jx_ent 106 (.ref 1 :: [.int (xs (i + 1))])) [] h (some (.int x)) h1) (hs2 : lw_sc L xs h1) (t2 : jx_T 180 0 (jx_ent 180 (.ref 56 :: [.int (xs (i + 1))])) [] h1 (some (.int x)) h3) (t : jx_T 215 1349 (lw_ls i) [] h3 v h2) : jx_T 215 739 (lw_ls i) [] h v h2 := by
  refine jx_T.step (pc' := 740) (st' := [_]) rfl rfl ?_
  refine lw_A 1 (by decide) hsc hi hL rfl rfl ⟨_, _, _, rfl⟩ rfl rfl ?_
  refine lw_V rfl (by decide) rfl hsc.2.1 ⟨Nat.le_of_ble_eq_true rfl, rfl⟩ rfl (Nat.le_of_ble_eq_true rfl) t1 ?_
  refine jx_T.step (pc' := 749) (st' := [_, _]) rfl rfl ?_
  refine lw_A 1 (by decide) hs2 hi hL rfl rfl ⟨_, _, _, rfl⟩ rfl rfl ?_
  refine lw_V rfl (by decide) rfl hs2.2.2 ⟨Nat.le_of_ble_eq_true rfl, rfl⟩ rfl (Nat.le_of_ble_eq_true rfl) t2 ?_
  refine cl.bc rfl (jx_br_eq _ _) (fun _ => t) (fun q => absurd rfl q)
theorem lw_c12 {x : Int32} (hsc : lw_sc L xs h) (hi : i + 6 ≤ L) (hL : L ≤ 3072) (t1 : jx_T 107 0 (jx_ent 107 (.ref 1 :: [])) [] h (some (.int x)) h1) (hs2 : lw_sc L xs h1) (t2 : jx_T 131 0 (jx_ent 131 (.ref 56 :: [])) [] h1 (some (.int x)) h3) (t : jx_T 215 1349 (lw_ls i) [] h3 v h2) : jx_T 215 762 (lw_ls i) [] h v h2 := by
  refine jx_T.step (pc' := 763) (st' := [_]) rfl rfl ?_
  refine lw_V rfl (by decide) rfl hsc.2.1 ⟨Nat.le_of_ble_eq_true rfl, rfl⟩ rfl (Nat.le_of_ble_eq_true rfl) t1 ?_
  refine jx_T.step (pc' := 767) (st' := [_, _]) rfl rfl ?_
  refine lw_V rfl (by decide) rfl hs2.2.2 ⟨Nat.le_of_ble_eq_true rfl, rfl⟩ rfl (Nat.le_of_ble_eq_true rfl) t2 ?_
  refine cl.bc rfl (jx_br_eq _ _) (fun _ => t) (fun q => absurd rfl q)
theorem lw_c13 {x : Int32} (hsc : lw_sc L xs h) (hi : i + 6 ≤ L) (hL : L ≤ 3072) (t1 : jx_T 108 0 (jx_ent 108 (.ref 1 :: [])) [] h (some (.int x)) h1) (hs2 : lw_sc L xs h1) (t2 : jx_T 133 0 (jx_ent 133 (.ref 56 :: [])) [] h1 (some (.int x)) h3) (t : jx_T 215 1349 (lw_ls i) [] h3 v h2) : jx_T 215 775 (lw_ls i) [] h v h2 := by
  refine jx_T.step (pc' := 776) (st' := [_]) rfl rfl ?_
  refine lw_V rfl (by decide) rfl hsc.2.1 ⟨Nat.le_of_ble_eq_true rfl, rfl⟩ rfl (Nat.le_of_ble_eq_true rfl) t1 ?_
  refine jx_T.step (pc' := 780) (st' := [_, _]) rfl rfl ?_
  refine lw_V rfl (by decide) rfl hs2.2.2 ⟨Nat.le_of_ble_eq_true rfl, rfl⟩ rfl (Nat.le_of_ble_eq_true rfl) t2 ?_
  refine cl.bc rfl (jx_br_eq _ _) (fun _ => t) (fun q => absurd rfl q)
theorem lw_c14 {x : Int32} (hsc : lw_sc L xs h) (hi : i + 6 ≤ L) (hL : L ≤ 3072) (t1 : jx_T 109 0 (jx_ent 109 (.ref 1 :: [.int (xs (i + 1)), .int (xs (i + 2))])) [] h (some (.int x)) h1) (hs2 : lw_sc L xs h1) (t2 : jx_T 154 0 (jx_ent 154 (.ref 56 :: [.int (xs (i + 1)), .int (xs (i + 2))])) [] h1 (some (.int x)) h3) (t : jx_T 215 1349 (lw_ls i) [] h3 v h2) : jx_T 215 788 (lw_ls i) [] h v h2 := by
  refine jx_T.step (pc' := 789) (st' := [_]) rfl rfl ?_
  refine lw_A 1 (by decide) hsc hi hL rfl rfl ⟨_, _, _, rfl⟩ rfl rfl ?_
  refine lw_A 2 (by decide) hsc hi hL rfl rfl ⟨_, _, _, rfl⟩ rfl rfl ?_
  refine lw_V rfl (by decide) rfl hsc.2.1 ⟨Nat.le_of_ble_eq_true rfl, rfl⟩ rfl (Nat.le_of_ble_eq_true rfl) t1 ?_
  refine jx_T.step (pc' := 803) (st' := [_, _]) rfl rfl ?_
  refine lw_A 1 (by decide) hs2 hi hL rfl rfl ⟨_, _, _, rfl⟩ rfl rfl ?_
  refine lw_A 2 (by decide) hs2 hi hL rfl rfl ⟨_, _, _, rfl⟩ rfl rfl ?_
  refine lw_V rfl (by decide) rfl hs2.2.2 ⟨Nat.le_of_ble_eq_true rfl, rfl⟩ rfl (Nat.le_of_ble_eq_true rfl) t2 ?_
  refine cl.bc rfl (jx_br_eq _ _) (fun _ => t) (fun q => absurd rfl q)
theorem lw_c15 {x : Int32} (hsc : lw_sc L xs h) (hi : i + 6 ≤ L) (hL : L ≤ 3072) (t1 : jx_T 110 0 (jx_ent 110 (.ref 1 :: [.int (xs (i + 1)), .int (xs (i + 2))])) [] h (some (.int x)) h1) (hs2 : lw_sc L xs h1) (t2 : jx_T 143 0 (jx_ent 143 (.ref 56 :: [.int (xs (i + 1)), .int (xs (i + 2))])) [] h1 (some (.int x)) h3) (t : jx_T 215 1349 (lw_ls i) [] h3 v h2) : jx_T 215 821 (lw_ls i) [] h v h2 := by
  refine jx_T.step (pc' := 822) (st' := [_]) rfl rfl ?_
  refine lw_A 1 (by decide) hsc hi hL rfl rfl ⟨_, _, _, rfl⟩ rfl rfl ?_
  refine lw_A 2 (by decide) hsc hi hL rfl rfl ⟨_, _, _, rfl⟩ rfl rfl ?_
  refine lw_V rfl (by decide) rfl hsc.2.1 ⟨Nat.le_of_ble_eq_true rfl, rfl⟩ rfl (Nat.le_of_ble_eq_true rfl) t1 ?_
  refine jx_T.step (pc' := 836) (st' := [_, _]) rfl rfl ?_
  refine lw_A 1 (by decide) hs2 hi hL rfl rfl ⟨_, _, _, rfl⟩ rfl rfl ?_
  refine lw_A 2 (by decide) hs2 hi hL rfl rfl ⟨_, _, _, rfl⟩ rfl rfl ?_
  refine lw_V rfl (by decide) rfl hs2.2.2 ⟨Nat.le_of_ble_eq_true rfl, rfl⟩ rfl (Nat.le_of_ble_eq_true rfl) t2 ?_
  refine cl.bc rfl (jx_br_eq _ _) (fun _ => t) (fun q => absurd rfl q)
theorem lw_c16 {x : Int64} (hsc : lw_sc L xs h) (hi : i + 6 ≤ L) (hL : L ≤ 3072) (t1 : jx_T 112 0 (jx_ent 112 (.ref 1 :: [.int (xs (i + 1))])) [] h (some (.long x)) h1) (hs2 : lw_sc L xs h1) (t2 : jx_T 157 0 (jx_ent 157 (.ref 56 :: [.int (xs (i + 1))])) [] h1 (some (.long x)) h3) (t : jx_T 215 1349 (lw_ls i) [] h3 v h2) : jx_T 215 854 (lw_ls i) [] h v h2 := by
  refine jx_T.step (pc' := 855) (st' := [_]) rfl rfl ?_
  refine lw_A 1 (by decide) hsc hi hL rfl rfl ⟨_, _, _, rfl⟩ rfl rfl ?_
  refine lw_V rfl (by decide) rfl hsc.2.1 ⟨Nat.le_of_ble_eq_true rfl, rfl⟩ rfl (Nat.le_of_ble_eq_true rfl) t1 ?_
  refine jx_T.step (pc' := 864) (st' := [_, _]) rfl rfl ?_
  refine lw_A 1 (by decide) hs2 hi hL rfl rfl ⟨_, _, _, rfl⟩ rfl rfl ?_
  refine lw_V rfl (by decide) rfl hs2.2.2 ⟨Nat.le_of_ble_eq_true rfl, rfl⟩ rfl (Nat.le_of_ble_eq_true rfl) t2 ?_
  refine jx_T.step (pc' := 873) (st' := [.int (lg_cmp x x)]) rfl rfl ?_
  refine cl.br rfl (jx_br_eq _ _) (fun _ => t) (fun q => absurd (lw_cmp x) q)
theorem lw_c17 {x : Int64} (hsc : lw_sc L xs h) (hi : i + 6 ≤ L) (hL : L ≤ 3072) (t1 : jx_T 114 0 (jx_ent 114 (.ref 1 :: [.int (xs (i + 1))])) [] h (some (.long x)) h1) (hs2 : lw_sc L xs h1) (t2 : jx_T 168 0 (jx_ent 168 (.ref 56 :: [.int (xs (i + 1))])) [] h1 (some (.long x)) h3) (t : jx_T 215 1349 (lw_ls i) [] h3 v h2) : jx_T 215 878 (lw_ls i) [] h v h2 := by
  refine jx_T.step (pc' := 879) (st' := [_]) rfl rfl ?_
  refine lw_A 1 (by decide) hsc hi hL rfl rfl ⟨_, _, _, rfl⟩ rfl rfl ?_
  refine lw_V rfl (by decide) rfl hsc.2.1 ⟨Nat.le_of_ble_eq_true rfl, rfl⟩ rfl (Nat.le_of_ble_eq_true rfl) t1 ?_
  refine jx_T.step (pc' := 888) (st' := [_, _]) rfl rfl ?_
  refine lw_A 1 (by decide) hs2 hi hL rfl rfl ⟨_, _, _, rfl⟩ rfl rfl ?_
  refine lw_V rfl (by decide) rfl hs2.2.2 ⟨Nat.le_of_ble_eq_true rfl, rfl⟩ rfl (Nat.le_of_ble_eq_true rfl) t2 ?_
  refine jx_T.step (pc' := 897) (st' := [.int (lg_cmp x x)]) rfl rfl ?_
  refine cl.br rfl (jx_br_eq _ _) (fun _ => t) (fun q => absurd (lw_cmp x) q)
theorem lw_c18 {x : Int32} (hsc : lw_sc L xs h) (hi : i + 6 ≤ L) (hL : L ≤ 3072) (t1 : jx_T 115 0 (jx_ent 115 (.ref 1 :: [.int (xs (i + 1)), .int (xs (i + 2))])) [] h (some (.int x)) h1) (hs2 : lw_sc L xs h1) (t2 : jx_T 172 0 (jx_ent 172 (.ref 56 :: [.int (xs (i + 1)), .int (xs (i + 2))])) [] h1 (some (.int x)) h3) (t : jx_T 215 1349 (lw_ls i) [] h3 v h2) : jx_T 215 902 (lw_ls i) [] h v h2 := by
  refine jx_T.step (pc' := 903) (st' := [_]) rfl rfl ?_
  refine lw_A 1 (by decide) hsc hi hL rfl rfl ⟨_, _, _, rfl⟩ rfl rfl ?_
  refine lw_A 2 (by decide) hsc hi hL rfl rfl ⟨_, _, _, rfl⟩ rfl rfl ?_
  refine lw_V rfl (by decide) rfl hsc.2.1 ⟨Nat.le_of_ble_eq_true rfl, rfl⟩ rfl (Nat.le_of_ble_eq_true rfl) t1 ?_
  refine jx_T.step (pc' := 917) (st' := [_, _]) rfl rfl ?_
  refine lw_A 1 (by decide) hs2 hi hL rfl rfl ⟨_, _, _, rfl⟩ rfl rfl ?_
  refine lw_A 2 (by decide) hs2 hi hL rfl rfl ⟨_, _, _, rfl⟩ rfl rfl ?_
  refine lw_V rfl (by decide) rfl hs2.2.2 ⟨Nat.le_of_ble_eq_true rfl, rfl⟩ rfl (Nat.le_of_ble_eq_true rfl) t2 ?_
  refine cl.bc rfl (jx_br_eq _ _) (fun _ => t) (fun q => absurd rfl q)
theorem lw_c19 {x : Int32} (hsc : lw_sc L xs h) (hi : i + 6 ≤ L) (hL : L ≤ 3072) (t1 : jx_T 116 0 (jx_ent 116 (.ref 1 :: [.int (xs (i + 1)), .int (xs (i + 2))])) [] h (some (.int x)) h1) (hs2 : lw_sc L xs h1) (t2 : jx_T 170 0 (jx_ent 170 (.ref 56 :: [.int (xs (i + 1)), .int (xs (i + 2))])) [] h1 (some (.int x)) h3) (t : jx_T 215 1349 (lw_ls i) [] h3 v h2) : jx_T 215 935 (lw_ls i) [] h v h2 := by
  refine jx_T.step (pc' := 936) (st' := [_]) rfl rfl ?_
  refine lw_A 1 (by decide) hsc hi hL rfl rfl ⟨_, _, _, rfl⟩ rfl rfl ?_
  refine lw_A 2 (by decide) hsc hi hL rfl rfl ⟨_, _, _, rfl⟩ rfl rfl ?_
  refine lw_V rfl (by decide) rfl hsc.2.1 ⟨Nat.le_of_ble_eq_true rfl, rfl⟩ rfl (Nat.le_of_ble_eq_true rfl) t1 ?_
  refine jx_T.step (pc' := 950) (st' := [_, _]) rfl rfl ?_
  refine lw_A 1 (by decide) hs2 hi hL rfl rfl ⟨_, _, _, rfl⟩ rfl rfl ?_
  refine lw_A 2 (by decide) hs2 hi hL rfl rfl ⟨_, _, _, rfl⟩ rfl rfl ?_
  refine lw_V rfl (by decide) rfl hs2.2.2 ⟨Nat.le_of_ble_eq_true rfl, rfl⟩ rfl (Nat.le_of_ble_eq_true rfl) t2 ?_
  refine cl.bc rfl (jx_br_eq _ _) (fun _ => t) (fun q => absurd rfl q)
theorem lw_c20 {x : Int32} (hsc : lw_sc L xs h) (hi : i + 6 ≤ L) (hL : L ≤ 3072) (t1 : jx_T 117 0 (jx_ent 117 (.ref 1 :: [.int (xs (i + 1))])) [] h (some (.int x)) h1) (hs2 : lw_sc L xs h1) (t2 : jx_T 169 0 (jx_ent 169 (.ref 56 :: [.int (xs (i + 1))])) [] h1 (some (.int x)) h3) (t : jx_T 215 1349 (lw_ls i) [] h3 v h2) : jx_T 215 968 (lw_ls i) [] h v h2 := by
  refine jx_T.step (pc' := 969) (st' := [_]) rfl rfl ?_
  refine lw_A 1 (by decide) hsc hi hL rfl rfl ⟨_, _, _, rfl⟩ rfl rfl ?_
  refine lw_V rfl (by decide) rfl hsc.2.1 ⟨Nat.le_of_ble_eq_true rfl, rfl⟩ rfl (Nat.le_of_ble_eq_true rfl) t1 ?_
  refine jx_T.step (pc' := 978) (st' := [_, _]) rfl rfl ?_
  refine lw_A 1 (by decide) hs2 hi hL rfl rfl ⟨_, _, _, rfl⟩ rfl rfl ?_
  refine lw_V rfl (by decide) rfl hs2.2.2 ⟨Nat.le_of_ble_eq_true rfl, rfl⟩ rfl (Nat.le_of_ble_eq_true rfl) t2 ?_
  refine cl.bc rfl (jx_br_eq _ _) (fun _ => t) (fun q => absurd rfl q)
theorem lw_c21 {x : Int64} (hsc : lw_sc L xs h) (hi : i + 6 ≤ L) (hL : L ≤ 3072) (t1 : jx_T 118 0 (jx_ent 118 (.ref 1 :: [.int (xs (i + 1)), .int (xs (i + 2))])) [] h (some (.long x)) h1) (hs2 : lw_sc L xs h1) (t2 : jx_T 171 0 (jx_ent 171 (.ref 56 :: [.int (xs (i + 1)), .int (xs (i + 2))])) [] h1 (some (.long x)) h3) (t : jx_T 215 1349 (lw_ls i) [] h3 v h2) : jx_T 215 991 (lw_ls i) [] h v h2 := by
  refine jx_T.step (pc' := 992) (st' := [_]) rfl rfl ?_
  refine lw_A 1 (by decide) hsc hi hL rfl rfl ⟨_, _, _, rfl⟩ rfl rfl ?_
  refine lw_A 2 (by decide) hsc hi hL rfl rfl ⟨_, _, _, rfl⟩ rfl rfl ?_
  refine lw_V rfl (by decide) rfl hsc.2.1 ⟨Nat.le_of_ble_eq_true rfl, rfl⟩ rfl (Nat.le_of_ble_eq_true rfl) t1 ?_
  refine jx_T.step (pc' := 1006) (st' := [_, _]) rfl rfl ?_
  refine lw_A 1 (by decide) hs2 hi hL rfl rfl ⟨_, _, _, rfl⟩ rfl rfl ?_
  refine lw_A 2 (by decide) hs2 hi hL rfl rfl ⟨_, _, _, rfl⟩ rfl rfl ?_
  refine lw_V rfl (by decide) rfl hs2.2.2 ⟨Nat.le_of_ble_eq_true rfl, rfl⟩ rfl (Nat.le_of_ble_eq_true rfl) t2 ?_
  refine jx_T.step (pc' := 1020) (st' := [.int (lg_cmp x x)]) rfl rfl ?_
  refine cl.br rfl (jx_br_eq _ _) (fun _ => t) (fun q => absurd (lw_cmp x) q)
theorem lw_c22 {x : Int64} (hsc : lw_sc L xs h) (hi : i + 6 ≤ L) (hL : L ≤ 3072) (t1 : jx_T 119 0 (jx_ent 119 (.ref 1 :: [.int (xs (i + 1)), .int (rf_o (¬ (xs (i + 2)) = 0)), .int (xs (i + 3))])) [] h (some (.long x)) h1) (hs2 : lw_sc L xs h1) (t2 : jx_T 175 0 (jx_ent 175 (.ref 56 :: [.int (xs (i + 1)), .int (rf_o (¬ (xs (i + 2)) = 0)), .int (xs (i + 3))])) [] h1 (some (.long x)) h3) (t : jx_T 215 1349 (lw_ls i) [] h3 v h2) : jx_T 215 1025 (lw_ls i) [] h v h2 := by
  refine jx_T.step (pc' := 1026) (st' := [_]) rfl rfl ?_
  refine lw_A 1 (by decide) hsc hi hL rfl rfl ⟨_, _, _, rfl⟩ rfl rfl ?_
  refine lw_A 2 (by decide) hsc hi hL rfl rfl ⟨_, _, _, rfl⟩ rfl rfl ?_
  refine lw_B ⟨_, _, _, _, rfl⟩ ⟨_, _, _, rfl⟩ ⟨_, _, _, _, rfl⟩ ⟨_, _, _, rfl⟩ ?_
  refine lw_A 3 (by decide) hsc hi hL rfl rfl ⟨_, _, _, rfl⟩ rfl rfl ?_
  refine lw_V rfl (by decide) rfl hsc.2.1 ⟨Nat.le_of_ble_eq_true rfl, rfl⟩ rfl (Nat.le_of_ble_eq_true rfl) t1 ?_
  refine jx_T.step (pc' := 1053) (st' := [_, _]) rfl rfl ?_
  refine lw_A 1 (by decide) hs2 hi hL rfl rfl ⟨_, _, _, rfl⟩ rfl rfl ?_
  refine lw_A 2 (by decide) hs2 hi hL rfl rfl ⟨_, _, _, rfl⟩ rfl rfl ?_
  refine lw_B ⟨_, _, _, _, rfl⟩ ⟨_, _, _, rfl⟩ ⟨_, _, _, _, rfl⟩ ⟨_, _, _, rfl⟩ ?_
  refine lw_A 3 (by decide) hs2 hi hL rfl rfl ⟨_, _, _, rfl⟩ rfl rfl ?_
  refine lw_V rfl (by decide) rfl hs2.2.2 ⟨Nat.le_of_ble_eq_true rfl, rfl⟩ rfl (Nat.le_of_ble_eq_true rfl) t2 ?_
  refine jx_T.step (pc' := 1080) (st' := [.int (lg_cmp x x)]) rfl rfl ?_
  refine cl.br rfl (jx_br_eq _ _) (fun _ => t) (fun q => absurd (lw_cmp x) q)
theorem lw_c23 {x : Int32} (hsc : lw_sc L xs h) (hi : i + 6 ≤ L) (hL : L ≤ 3072) (t1 : jx_T 120 0 (jx_ent 120 (.ref 1 :: [.int (xs (i + 1))])) [] h (some (.int x)) h1) (hs2 : lw_sc L xs h1) (t2 : jx_T 181 0 (jx_ent 181 (.ref 56 :: [.int (xs (i + 1))])) [] h1 (some (.int x)) h3) (t : jx_T 215 1349 (lw_ls i) [] h3 v h2) : jx_T 215 1085 (lw_ls i) [] h v h2 := by
  refine jx_T.step (pc' := 1086) (st' := [_]) rfl rfl ?_
  refine lw_A 1 (by decide) hsc hi hL rfl rfl ⟨_, _, _, rfl⟩ rfl rfl ?_
  refine lw_V rfl (by decide) rfl hsc.2.1 ⟨Nat.le_of_ble_eq_true rfl, rfl⟩ rfl (Nat.le_of_ble_eq_true rfl) t1 ?_
  refine jx_T.step (pc' := 1095) (st' := [_, _]) rfl rfl ?_
  refine lw_A 1 (by decide) hs2 hi hL rfl rfl ⟨_, _, _, rfl⟩ rfl rfl ?_
  refine lw_V rfl (by decide) rfl hs2.2.2 ⟨Nat.le_of_ble_eq_true rfl, rfl⟩ rfl (Nat.le_of_ble_eq_true rfl) t2 ?_
  refine cl.bc rfl (jx_br_eq _ _) (fun _ => t) (fun q => absurd rfl q)
theorem lw_c24 {x : Int64} (hsc : lw_sc L xs h) (hi : i + 6 ≤ L) (hL : L ≤ 3072) (t1 : jx_T 121 0 (jx_ent 121 (.ref 1 :: [.int (xs (i + 1))])) [] h (some (.long x)) h1) (hs2 : lw_sc L xs h1) (t2 : jx_T 186 0 (jx_ent 186 (.ref 56 :: [.int (xs (i + 1))])) [] h1 (some (.long x)) h3) (t : jx_T 215 1349 (lw_ls i) [] h3 v h2) : jx_T 215 1108 (lw_ls i) [] h v h2 := by
  refine jx_T.step (pc' := 1109) (st' := [_]) rfl rfl ?_
  refine lw_A 1 (by decide) hsc hi hL rfl rfl ⟨_, _, _, rfl⟩ rfl rfl ?_
  refine lw_V rfl (by decide) rfl hsc.2.1 ⟨Nat.le_of_ble_eq_true rfl, rfl⟩ rfl (Nat.le_of_ble_eq_true rfl) t1 ?_
  refine jx_T.step (pc' := 1118) (st' := [_, _]) rfl rfl ?_
  refine lw_A 1 (by decide) hs2 hi hL rfl rfl ⟨_, _, _, rfl⟩ rfl rfl ?_
  refine lw_V rfl (by decide) rfl hs2.2.2 ⟨Nat.le_of_ble_eq_true rfl, rfl⟩ rfl (Nat.le_of_ble_eq_true rfl) t2 ?_
  refine jx_T.step (pc' := 1127) (st' := [.int (lg_cmp x x)]) rfl rfl ?_
  refine cl.br rfl (jx_br_eq _ _) (fun _ => t) (fun q => absurd (lw_cmp x) q)
theorem lw_c25 {x : Int32} (hsc : lw_sc L xs h) (hi : i + 6 ≤ L) (hL : L ≤ 3072) (t1 : jx_T 122 0 (jx_ent 122 (.ref 1 :: [.int (xs (i + 1)), .int (xs (i + 2))])) [] h (some (.int x)) h1) (hs2 : lw_sc L xs h1) (t2 : jx_T 187 0 (jx_ent 187 (.ref 56 :: [.int (xs (i + 1)), .int (xs (i + 2))])) [] h1 (some (.int x)) h3) (t : jx_T 215 1349 (lw_ls i) [] h3 v h2) : jx_T 215 1132 (lw_ls i) [] h v h2 := by
  refine jx_T.step (pc' := 1133) (st' := [_]) rfl rfl ?_
  refine lw_A 1 (by decide) hsc hi hL rfl rfl ⟨_, _, _, rfl⟩ rfl rfl ?_
  refine lw_A 2 (by decide) hsc hi hL rfl rfl ⟨_, _, _, rfl⟩ rfl rfl ?_
  refine lw_V rfl (by decide) rfl hsc.2.1 ⟨Nat.le_of_ble_eq_true rfl, rfl⟩ rfl (Nat.le_of_ble_eq_true rfl) t1 ?_
  refine jx_T.step (pc' := 1147) (st' := [_, _]) rfl rfl ?_
  refine lw_A 1 (by decide) hs2 hi hL rfl rfl ⟨_, _, _, rfl⟩ rfl rfl ?_
  refine lw_A 2 (by decide) hs2 hi hL rfl rfl ⟨_, _, _, rfl⟩ rfl rfl ?_
  refine lw_V rfl (by decide) rfl hs2.2.2 ⟨Nat.le_of_ble_eq_true rfl, rfl⟩ rfl (Nat.le_of_ble_eq_true rfl) t2 ?_
  refine cl.bc rfl (jx_br_eq _ _) (fun _ => t) (fun q => absurd rfl q)
theorem lw_c26 {x : Int64} (hsc : lw_sc L xs h) (hi : i + 6 ≤ L) (hL : L ≤ 3072) (t1 : jx_T 123 0 (jx_ent 123 (.ref 1 :: [])) [] h (some (.long x)) h1) (hs2 : lw_sc L xs h1) (t2 : jx_T 194 0 (jx_ent 194 (.ref 56 :: [])) [] h1 (some (.long x)) h3) (t : jx_T 215 1349 (lw_ls i) [] h3 v h2) : jx_T 215 1165 (lw_ls i) [] h v h2 := by
  refine jx_T.step (pc' := 1166) (st' := [_]) rfl rfl ?_
  refine lw_V rfl (by decide) rfl hsc.2.1 ⟨Nat.le_of_ble_eq_true rfl, rfl⟩ rfl (Nat.le_of_ble_eq_true rfl) t1 ?_
  refine jx_T.step (pc' := 1170) (st' := [_, _]) rfl rfl ?_
  refine lw_V rfl (by decide) rfl hs2.2.2 ⟨Nat.le_of_ble_eq_true rfl, rfl⟩ rfl (Nat.le_of_ble_eq_true rfl) t2 ?_
  refine jx_T.step (pc' := 1174) (st' := [.int (lg_cmp x x)]) rfl rfl ?_
  refine cl.br rfl (jx_br_eq _ _) (fun _ => t) (fun q => absurd (lw_cmp x) q)
theorem lw_c27 {x : Int32} (hsc : lw_sc L xs h) (hi : i + 6 ≤ L) (hL : L ≤ 3072) (t1 : jx_T 124 0 (jx_ent 124 (.ref 1 :: [.int (xs (i + 1)), .int (rf_o (¬ (xs (i + 2)) = 0))])) [] h (some (.int x)) h1) (hs2 : lw_sc L xs h1) (t2 : jx_T 191 0 (jx_ent 191 (.ref 56 :: [.int (xs (i + 1)), .int (rf_o (¬ (xs (i + 2)) = 0))])) [] h1 (some (.int x)) h3) (t : jx_T 215 1349 (lw_ls i) [] h3 v h2) : jx_T 215 1179 (lw_ls i) [] h v h2 := by
  refine jx_T.step (pc' := 1180) (st' := [_]) rfl rfl ?_
  refine lw_A 1 (by decide) hsc hi hL rfl rfl ⟨_, _, _, rfl⟩ rfl rfl ?_
  refine lw_A 2 (by decide) hsc hi hL rfl rfl ⟨_, _, _, rfl⟩ rfl rfl ?_
  refine lw_B ⟨_, _, _, _, rfl⟩ ⟨_, _, _, rfl⟩ ⟨_, _, _, _, rfl⟩ ⟨_, _, _, rfl⟩ ?_
  refine lw_V rfl (by decide) rfl hsc.2.1 ⟨Nat.le_of_ble_eq_true rfl, rfl⟩ rfl (Nat.le_of_ble_eq_true rfl) t1 ?_
  refine jx_T.step (pc' := 1202) (st' := [_, _]) rfl rfl ?_
  refine lw_A 1 (by decide) hs2 hi hL rfl rfl ⟨_, _, _, rfl⟩ rfl rfl ?_
  refine lw_A 2 (by decide) hs2 hi hL rfl rfl ⟨_, _, _, rfl⟩ rfl rfl ?_
  refine lw_B ⟨_, _, _, _, rfl⟩ ⟨_, _, _, rfl⟩ ⟨_, _, _, _, rfl⟩ ⟨_, _, _, rfl⟩ ?_
  refine lw_V rfl (by decide) rfl hs2.2.2 ⟨Nat.le_of_ble_eq_true rfl, rfl⟩ rfl (Nat.le_of_ble_eq_true rfl) t2 ?_
  refine cl.bc rfl (jx_br_eq _ _) (fun _ => t) (fun q => absurd rfl q)
theorem lw_c28 {x : Int64} (hsc : lw_sc L xs h) (hi : i + 6 ≤ L) (hL : L ≤ 3072) (t1 : jx_T 126 0 (jx_ent 126 (.ref 1 :: [.int (xs (i + 1)), .int (xs (i + 2)), .int (xs (i + 3)), .int (xs (i + 4))])) [] h (some (.long x)) h1) (hs2 : lw_sc L xs h1) (t2 : jx_T 188 0 (jx_ent 188 (.ref 56 :: [.int (xs (i + 1)), .int (xs (i + 2)), .int (xs (i + 3)), .int (xs (i + 4))])) [] h1 (some (.long x)) h3) (t : jx_T 215 1349 (lw_ls i) [] h3 v h2) : jx_T 215 1228 (lw_ls i) [] h v h2 := by
  refine jx_T.step (pc' := 1229) (st' := [_]) rfl rfl ?_
  refine lw_A 1 (by decide) hsc hi hL rfl rfl ⟨_, _, _, rfl⟩ rfl rfl ?_
  refine lw_A 2 (by decide) hsc hi hL rfl rfl ⟨_, _, _, rfl⟩ rfl rfl ?_
  refine lw_A 3 (by decide) hsc hi hL rfl rfl ⟨_, _, _, rfl⟩ rfl rfl ?_
  refine lw_A 4 (by decide) hsc hi hL rfl rfl ⟨_, _, _, rfl⟩ rfl rfl ?_
  refine lw_V rfl (by decide) rfl hsc.2.1 ⟨Nat.le_of_ble_eq_true rfl, rfl⟩ rfl (Nat.le_of_ble_eq_true rfl) t1 ?_
  refine jx_T.step (pc' := 1253) (st' := [_, _]) rfl rfl ?_
  refine lw_A 1 (by decide) hs2 hi hL rfl rfl ⟨_, _, _, rfl⟩ rfl rfl ?_
  refine lw_A 2 (by decide) hs2 hi hL rfl rfl ⟨_, _, _, rfl⟩ rfl rfl ?_
  refine lw_A 3 (by decide) hs2 hi hL rfl rfl ⟨_, _, _, rfl⟩ rfl rfl ?_
  refine lw_A 4 (by decide) hs2 hi hL rfl rfl ⟨_, _, _, rfl⟩ rfl rfl ?_
  refine lw_V rfl (by decide) rfl hs2.2.2 ⟨Nat.le_of_ble_eq_true rfl, rfl⟩ rfl (Nat.le_of_ble_eq_true rfl) t2 ?_
  refine jx_T.step (pc' := 1277) (st' := [.int (lg_cmp x x)]) rfl rfl ?_
  refine cl.br rfl (jx_br_eq _ _) (fun _ => t) (fun q => absurd (lw_cmp x) q)
theorem lw_c29 {x : Int64} (hsc : lw_sc L xs h) (hi : i + 6 ≤ L) (hL : L ≤ 3072) (t1 : jx_T 128 0 (jx_ent 128 (.ref 1 :: [.int (xs (i + 1)), .int (xs (i + 2)), .int (xs (i + 3))])) [] h (some (.long x)) h1) (hs2 : lw_sc L xs h1) (t2 : jx_T 190 0 (jx_ent 190 (.ref 56 :: [.int (xs (i + 1)), .int (xs (i + 2)), .int (xs (i + 3))])) [] h1 (some (.long x)) h3) (t : jx_T 215 1349 (lw_ls i) [] h3 v h2) : jx_T 215 1282 (lw_ls i) [] h v h2 := by
  refine jx_T.step (pc' := 1283) (st' := [_]) rfl rfl ?_
  refine lw_A 1 (by decide) hsc hi hL rfl rfl ⟨_, _, _, rfl⟩ rfl rfl ?_
  refine lw_A 2 (by decide) hsc hi hL rfl rfl ⟨_, _, _, rfl⟩ rfl rfl ?_
  refine lw_A 3 (by decide) hsc hi hL rfl rfl ⟨_, _, _, rfl⟩ rfl rfl ?_
  refine lw_V rfl (by decide) rfl hsc.2.1 ⟨Nat.le_of_ble_eq_true rfl, rfl⟩ rfl (Nat.le_of_ble_eq_true rfl) t1 ?_
  refine jx_T.step (pc' := 1302) (st' := [_, _]) rfl rfl ?_
  refine lw_A 1 (by decide) hs2 hi hL rfl rfl ⟨_, _, _, rfl⟩ rfl rfl ?_
  refine lw_A 2 (by decide) hs2 hi hL rfl rfl ⟨_, _, _, rfl⟩ rfl rfl ?_
  refine lw_A 3 (by decide) hs2 hi hL rfl rfl ⟨_, _, _, rfl⟩ rfl rfl ?_
  refine lw_V rfl (by decide) rfl hs2.2.2 ⟨Nat.le_of_ble_eq_true rfl, rfl⟩ rfl (Nat.le_of_ble_eq_true rfl) t2 ?_
  refine jx_T.step (pc' := 1321) (st' := [.int (lg_cmp x x)]) rfl rfl ?_
  refine cl.br rfl (jx_br_eq _ _) (fun _ => t) (fun q => absurd (lw_cmp x) q)
theorem lw_c30 {x : Int32} (hsc : lw_sc L xs h) (hi : i + 6 ≤ L) (hL : L ≤ 3072) (t1 : jx_T 111 0 (jx_ent 111 (.ref 1 :: [.int (xs (i + 1))])) [] h (some (.int x)) h1) (hs2 : lw_sc L xs h1) (t2 : jx_T 204 0 (jx_ent 204 (.ref 56 :: [.int (xs (i + 1))])) [] h1 (some (.int x)) h3) (t : jx_T 215 1349 (lw_ls i) [] h3 v h2) : jx_T 215 1326 (lw_ls i) [] h v h2 := by
  refine jx_T.step (pc' := 1327) (st' := [_]) rfl rfl ?_
  refine lw_A 1 (by decide) hsc hi hL rfl rfl ⟨_, _, _, rfl⟩ rfl rfl ?_
  refine lw_V rfl (by decide) rfl hsc.2.1 ⟨Nat.le_of_ble_eq_true rfl, rfl⟩ rfl (Nat.le_of_ble_eq_true rfl) t1 ?_
  refine jx_T.step (pc' := 1336) (st' := [_, _]) rfl rfl ?_
  refine lw_A 1 (by decide) hs2 hi hL rfl rfl ⟨_, _, _, rfl⟩ rfl rfl ?_
  refine lw_V rfl (by decide) rfl hs2.2.2 ⟨Nat.le_of_ble_eq_true rfl, rfl⟩ rfl (Nat.le_of_ble_eq_true rfl) t2 ?_
  refine cl.bc rfl (jx_br_eq _ _) (fun _ => t) (fun q => absurd rfl q)
end
