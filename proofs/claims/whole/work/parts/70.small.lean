/-! the works: undo, redo, finding, number, about, act -/
theorem cl.swI {m pc : Nat} {ls st : List Value} {h h2 : jx_H} {v : Option Value} {d lo hi : Int} {offs : Array Int} {len x y tgt : Nat} {vv : Value} {a : Int32} {o : Int} (hr : jx_rc m pc = some (.tableswitch d lo hi offs, len, x, y, vv)) (h1 : lo ≤ a.toInt ∧ a.toInt ≤ hi) (ho : offs[(a.toInt - lo).toNat]? = some o) (ht : (pc : Int) + o = (tgt : Int)) (k : jx_T m tgt ls st h v h2) : jx_T m pc ls (.int a :: st) h v h2 := by
  refine jx_T.step (pc' := tgt) (ls' := ls) (st' := st) hr ?_ k
  have e1 : ¬ (a.toInt < lo ∨ hi < a.toInt) := by omega
  simp only [jx_act, if_neg e1, ho, ht]
  rw [if_pos (Int.natCast_nonneg tgt)]
  rfl
theorem cl.swO {m pc : Nat} {ls st : List Value} {h h2 : jx_H} {v : Option Value} {d lo hi : Int} {offs : Array Int} {len x y tgt : Nat} {vv : Value} {a : Int32} (hr : jx_rc m pc = some (.tableswitch d lo hi offs, len, x, y, vv)) (h1 : ¬ (lo ≤ a.toInt ∧ a.toInt ≤ hi)) (ht : (pc : Int) + d = (tgt : Int)) (k : jx_T m tgt ls st h v h2) : jx_T m pc ls (.int a :: st) h v h2 := by
  refine jx_T.step (pc' := tgt) (ls' := ls) (st' := st) hr ?_ k
  have e1 : a.toInt < lo ∨ hi < a.toInt := by omega
  simp only [jx_act, if_pos e1, ht]
  rw [if_pos (Int.natCast_nonneg tgt)]
  rfl
section
variable {W : cw} {g : Nat → Option jx_E} {x : Nat} {T : tv} (nx s : Nat)
theorem kc_undo_no (e : W.2.2.1 1 2 = nI 0) : jx_T 107 0 (jx_ent 107 [.ref 1]) [] (hc W g nx s) (some (.int 7)) (hc W g nx s) := by
  show jx_T 107 0 [.ref 1] [] _ _ _
  refine jx_T.step (pc' := 1) (st' := [_]) rfl rfl ?_
  refine cl.get 1 (by decide) rfl (cw_c1 _) rfl ?_
  rw [e]
  refine cl.brn rfl (fun zq => absurd (rfl) zq) (fun _ => ?_)
  refine jx_T.step (pc' := 9) (st' := [_]) rfl rfl ?_
  exact jx_T.ret rfl rfl
theorem kc_undo (D U : Nat) (hD : D < 2 ^ 30) (e : W.2.2.1 1 2 = nI (D + 1)) (e3 : W.2.2.1 1 3 = nI U) : jx_T 107 0 (jx_ent 107 [.ref 1]) [] (hc W g nx s) (some (.int 0)) (hc (cw_I (cw_I W 1 2 (nI D)) 1 3 (nI (U + 1))) g nx s) := by
  have e3b : ∀ x, (cw_I W 1 2 x).2.2.1 1 3 = nI U := fun _ => e3
  show jx_T 107 0 [.ref 1] [] _ _ _
  refine jx_T.step (pc' := 1) (st' := [_]) rfl rfl ?_
  refine cl.get 1 (by decide) rfl (cw_c1 _) rfl ?_
  rw [e]
  refine cl.brn rfl (fun _ => ?_) (fun zq => absurd zq (fun q => absurd ((nI_z (by omega)).mp q) (by omega)))
  refine jx_T.step (pc' := 11) (st' := [_]) rfl rfl ?_
  refine jx_T.step (pc' := 12) (st' := [_, _]) rfl rfl ?_
  refine cl.get 1 (by decide) rfl (cw_c1 _) rfl ?_
  rw [e]
  refine jx_T.step (pc' := 16) (st' := [_, _, _]) rfl rfl ?_
  refine jx_T.step (pc' := 17) (st' := [_, _]) rfl rfl ?_
  rw [nI_pred]
  refine cl.put 1 (by decide) rfl (cw_c1 _) (Nat.le_of_ble_eq_true rfl) rfl (cw_f1_2 _ _) ?_
  refine jx_T.step (pc' := 21) (st' := [_]) rfl rfl ?_
  refine jx_T.step (pc' := 22) (st' := [_, _]) rfl rfl ?_
  refine cl.get 1 (by decide) rfl (cw_c1 _) rfl ?_
  rw [e3b]
  refine jx_T.step (pc' := 26) (st' := [_, _, _]) rfl rfl ?_
  refine jx_T.step (pc' := 27) (st' := [_, _]) rfl rfl ?_
  rw [nI_1]
  refine cl.put 1 (by decide) rfl (cw_c1 _) (Nat.le_of_ble_eq_true rfl) rfl (cw_f1_3 _ _) ?_
  refine jx_T.step (pc' := 31) (st' := [_]) rfl rfl ?_
  exact jx_T.ret rfl rfl
theorem kc_redo_no (e : W.2.2.1 1 3 = nI 0) : jx_T 108 0 (jx_ent 108 [.ref 1]) [] (hc W g nx s) (some (.int 7)) (hc W g nx s) := by
  show jx_T 108 0 [.ref 1] [] _ _ _
  refine jx_T.step (pc' := 1) (st' := [_]) rfl rfl ?_
  refine cl.get 1 (by decide) rfl (cw_c1 _) rfl ?_
  rw [e]
  refine cl.brn rfl (fun zq => absurd (rfl) zq) (fun _ => ?_)
  refine jx_T.step (pc' := 9) (st' := [_]) rfl rfl ?_
  exact jx_T.ret rfl rfl
theorem kc_redo (D U : Nat) (hU : U < 2 ^ 30) (e : W.2.2.1 1 3 = nI (U + 1)) (e2 : W.2.2.1 1 2 = nI D) : jx_T 108 0 (jx_ent 108 [.ref 1]) [] (hc W g nx s) (some (.int 0)) (hc (cw_I (cw_I W 1 3 (nI U)) 1 2 (nI (D + 1))) g nx s) := by
  have e2b : ∀ x, (cw_I W 1 3 x).2.2.1 1 2 = nI D := fun _ => e2
  show jx_T 108 0 [.ref 1] [] _ _ _
  refine jx_T.step (pc' := 1) (st' := [_]) rfl rfl ?_
  refine cl.get 1 (by decide) rfl (cw_c1 _) rfl ?_
  rw [e]
  refine cl.brn rfl (fun _ => ?_) (fun zq => absurd zq (fun q => absurd ((nI_z (by omega)).mp q) (by omega)))
  refine jx_T.step (pc' := 11) (st' := [_]) rfl rfl ?_
  refine jx_T.step (pc' := 12) (st' := [_, _]) rfl rfl ?_
  refine cl.get 1 (by decide) rfl (cw_c1 _) rfl ?_
  rw [e]
  refine jx_T.step (pc' := 16) (st' := [_, _, _]) rfl rfl ?_
  refine jx_T.step (pc' := 17) (st' := [_, _]) rfl rfl ?_
  rw [nI_pred]
  refine cl.put 1 (by decide) rfl (cw_c1 _) (Nat.le_of_ble_eq_true rfl) rfl (cw_f1_3 _ _) ?_
  refine jx_T.step (pc' := 21) (st' := [_]) rfl rfl ?_
  refine jx_T.step (pc' := 22) (st' := [_, _]) rfl rfl ?_
  refine cl.get 1 (by decide) rfl (cw_c1 _) rfl ?_
  rw [e2b]
  refine jx_T.step (pc' := 26) (st' := [_, _, _]) rfl rfl ?_
  refine jx_T.step (pc' := 27) (st' := [_, _]) rfl rfl ?_
  rw [nI_1]
  refine cl.put 1 (by decide) rfl (cw_c1 _) (Nat.le_of_ble_eq_true rfl) rfl (cw_f1_2 _ _) ?_
  refine jx_T.step (pc' := 31) (st' := [_]) rfl rfl ?_
  exact jx_T.ret rfl rfl
theorem kc_finding (w : Int32) : jx_T 121 0 (jx_ent 121 [.ref 1, .int w]) [] (hc W g nx s) (some (.long (if 0 ≤ w.toInt ∧ w.toInt ≤ 3 then W.2.1 34 w.toNatClampNeg else -1))) (hc W g nx s) := by
  show jx_T 121 0 [.ref 1, .int w] [] _ _ _
  refine jx_T.step (pc' := 1) (st' := [_]) rfl rfl ?_
  refine jx_T.step (pc' := 2) (st' := [_, _]) rfl rfl ?_
  refine jx_T.step (pc' := 3) (st' := [_, _, _]) rfl rfl ?_
  refine cl.s3I rfl (by decide) rfl (Nat.le_of_ble_eq_true rfl) (Nat.le_of_ble_eq_true rfl) (kc_within _ _ _ _) ?_
  by_cases z : 0 ≤ w.toInt ∧ w.toInt ≤ 3
  · rw [if_pos z]
    refine cl.br rfl (jx_br_eq _ _) (fun zq => absurd zq (fun q => (rf_o_0 _).mp q z)) (fun _ => ?_)
    obtain ⟨j, hj, rfl⟩ := rf_nI (x := w) (n := 3) z (by decide)
    refine jx_T.step (pc' := 10) (st' := [_]) rfl rfl ?_
    refine cl.get 1 (by decide) rfl (cw_c1 _) rfl ?_
    refine jx_T.step (pc' := 14) (st' := [_, _]) rfl rfl ?_
    refine cl.lald 34 (by decide) rfl (cw_c34 _) (rf_ix (by omega) (by decide)) ?_
    refine jx_T.step (pc' := 21) (st' := [_]) rfl rfl ?_
    exact jx_T.ret rfl rfl
  · rw [if_neg z]
    refine cl.br rfl (jx_br_eq _ _) (fun _ => ?_) (fun zq => absurd ((rf_o_0 _).mpr z) zq)
    refine jx_T.step (pc' := 21) (st' := [_]) rfl rfl ?_
    exact jx_T.ret rfl rfl
def tv_num (T : tv) (k i : Int32) : Int32 := if 0 ≤ k.toInt ∧ k.toInt ≤ 7 then (match T.2.2.2.1 k.toNatClampNeg with | none => -1 | some X => if 0 ≤ i.toInt ∧ i.toInt < X.2.1 then X.2.2 i.toNatClampNeg else -1) else -1
def tv_sh (T : tv) : Prop := ∀ k X, k < 8 → T.2.2.2.1 k = some X → X.2.1 ≤ 16
theorem kc_number (n : cl_now W g x T) (ok2 : tv_sh T) (k i : Int32) : jx_T 110 0 (jx_ent 110 [.ref 1, .int k, .int i]) [] (hc W g nx s) (some (.int (tv_num T k i))) (hc W g nx s) := by
  have cn := kc_now nx s n
  obtain ⟨-, im, ok⟩ := n
  obtain ⟨s1, s2, s3, s4, f1, f2, f3, h1, h2, h3, h4, h5, -⟩ := im
  show jx_T 110 0 [.ref 1, .int k, .int i, .retAddr 0] [] _ _ _
  unfold tv_num
  refine jx_T.step (pc' := 1) (st' := [_]) rfl rfl ?_
  refine jx_T.step (pc' := 2) (st' := [_, _]) rfl rfl ?_
  refine jx_T.step (pc' := 4) (st' := [_, _, _]) rfl rfl ?_
  refine cl.s3I rfl (by decide) rfl (Nat.le_of_ble_eq_true rfl) (Nat.le_of_ble_eq_true rfl) (kc_within _ _ _ _) ?_
  by_cases z : 0 ≤ k.toInt ∧ k.toInt ≤ 7
  · rw [if_pos z]
    refine cl.brn rfl (fun _ => ?_) (fun zq => absurd zq (fun q => (rf_o_0 _).mp q z))
    obtain ⟨j, hj, rfl⟩ := rf_nI (x := k) (n := 7) z (by decide)
    rw [nI_clamp (by omega)]
    refine jx_T.step (pc' := 13) (st' := [_]) rfl rfl ?_
    refine cl.v0I (hc_fix 1 (by decide) (cw_c1 _)) rfl (by decide) rfl ⟨Nat.le_of_ble_eq_true rfl, rfl⟩ (Nat.le_of_ble_eq_true rfl) (cn) ?_
    refine cl.geti (h1).1 (h1).2 rfl rfl ?_
    refine jx_T.step (pc' := 20) (st' := [_, _]) rfl rfl ?_
    refine cl.aaldi (h4).1 (h4).2 rfl (by decide) (rf_ix (by omega) (by decide)) ?_
    rw [nI_clamp (by omega)]
    rcases h5 j (by omega) with ⟨q1, q2⟩ | ⟨X, b, q1, q2, c, q3, q4⟩
    · rw [q1, q2]
      refine jx_T.step (pc' := 22) (ls' := [_, _, _, _]) (st' := []) rfl rfl ?_
      refine jx_T.step (pc' := 23) (st' := [_]) rfl rfl ?_
      refine jx_T.step (pc' := 39) (st' := []) rfl rfl ?_
      refine jx_T.step (pc' := 40) (st' := [_]) rfl rfl ?_
      exact jx_T.ret rfl rfl
    · rw [q1, q2]
      have hX := ok2 j X (by omega) q1
      dsimp only
      refine jx_T.step (pc' := 22) (ls' := [_, _, _, _]) (st' := []) rfl rfl ?_
      refine jx_T.step (pc' := 23) (st' := [_]) rfl rfl ?_
      refine jx_T.step (pc' := 26) (st' := []) rfl rfl ?_
      refine jx_T.step (pc' := 27) (st' := [_]) rfl rfl ?_
      by_cases y : i < 0
      · rw [if_neg (fun q => by have := (rf_lt0 i).mp y; omega)]
        refine cl.br rfl (jx_br_lt _ _) (fun _ => ?_) (fun zq => absurd (y) zq)
        refine jx_T.step (pc' := 40) (st' := [_]) rfl rfl ?_
        exact jx_T.ret rfl rfl
      · refine cl.br rfl (jx_br_lt _ _) (fun zq => absurd zq (y)) (fun _ => ?_)
        obtain ⟨m, hm, rfl⟩ := rf_nn y
        rw [nI_toInt hm, nI_clamp hm]
        refine jx_T.step (pc' := 31) (st' := [_]) rfl rfl ?_
        refine jx_T.step (pc' := 32) (st' := [_, _]) rfl rfl ?_
        refine cl.geti (q3).1 (q3).2 rfl rfl ?_
        refine cl.aleni (q4).1 (q4).2 rfl (Or.inl (by decide)) ?_
        by_cases w : m < X.2.1
        · rw [if_pos (by omega)]
          refine cl.bc rfl (jx_br_lt _ _) (fun _ => ?_) (fun zq => absurd (nI_lt w (by omega)) zq)
          refine jx_T.step (pc' := 42) (st' := [_]) rfl rfl ?_
          refine cl.geti (q3).1 (q3).2 rfl rfl ?_
          refine jx_T.step (pc' := 46) (st' := [_, _]) rfl rfl ?_
          refine cl.ialdi (q4).1 (q4).2 rfl (rf_ix w (by omega)) ?_
          rw [nI_clamp hm]
          exact jx_T.ret rfl rfl
        · rw [if_neg (by omega)]
          refine cl.bc rfl (jx_br_lt _ _) (fun zq => absurd zq (Int32.not_lt.mpr (nI_le (by omega) hm))) (fun _ => ?_)
          refine jx_T.step (pc' := 40) (st' := [_]) rfl rfl ?_
          exact jx_T.ret rfl rfl
  · rw [if_neg z]
    refine cl.brn rfl (fun zq => absurd ((rf_o_0 _).mpr z) zq) (fun _ => ?_)
    refine jx_T.step (pc' := 11) (st' := [_]) rfl rfl ?_
    exact jx_T.ret rfl rfl
theorem kc_streamAt (im : im_sta g x T) (ok : tv_ok T) (i : Int32) : (¬ (0 ≤ i.toInt ∧ i.toInt < T.2.1) ∧ jx_T 74 0 (jx_ent 74 [.ref x, .int i]) [] (hc W g nx s) (some .null) (hc W g nx s)) ∨ ∃ j b, j < T.2.1 ∧ i = nI j ∧ im_str g b (T.2.2.1 j) ∧ jx_T 74 0 (jx_ent 74 [.ref x, .int i]) [] (hc W g nx s) (some (.ref b)) (hc W g nx s) := by
  obtain ⟨s1, s2, s3, s4, f1, f2, f3, h1, h2, h3, -⟩ := im
  have hM := ok.1
  by_cases z : 0 ≤ i.toInt ∧ i.toInt < T.2.1
  · right
    obtain ⟨j, hj, rfl⟩ := rf_nI (x := i) (n := 12) ⟨z.1, by omega⟩ (by decide)
    rw [nI_toInt (by omega)] at z
    obtain ⟨b, e1, imb⟩ := h3 j (by omega)
    refine ⟨j, b, by omega, rfl, imb, ?_⟩
    show jx_T 74 0 [.ref x, .int (nI j)] [] _ _ _
    refine jx_T.step (pc' := 1) (st' := [_]) rfl rfl ?_
    refine cl.br rfl (jx_br_lt _ _) (fun zq => absurd zq (nI_pos (by omega))) (fun _ => ?_)
    refine jx_T.step (pc' := 5) (st' := [_]) rfl rfl ?_
    refine jx_T.step (pc' := 6) (st' := [_, _]) rfl rfl ?_
    refine cl.geti (h1).1 (h1).2 rfl rfl ?_
    refine cl.bc rfl (jx_br_ge _ _) (fun zq => absurd zq (nI_ge (by omega) (by omega))) (fun _ => ?_)
    refine jx_T.step (pc' := 13) (st' := [_]) rfl rfl ?_
    refine cl.geti (h1).1 (h1).2 rfl rfl ?_
    refine jx_T.step (pc' := 17) (st' := [_, _]) rfl rfl ?_
    refine cl.aaldi (h2).1 (h2).2 rfl (by decide) (rf_ix (by omega) (by decide)) ?_
    rw [nI_clamp (by omega), e1]
    refine jx_T.step (pc' := 22) (st' := [_]) rfl rfl ?_
    exact jx_T.ret rfl rfl
  · left
    refine ⟨z, ?_⟩
    show jx_T 74 0 [.ref x, .int i] [] _ _ _
    refine jx_T.step (pc' := 1) (st' := [_]) rfl rfl ?_
    by_cases y : i < 0
    · refine cl.br rfl (jx_br_lt _ _) (fun _ => ?_) (fun zq => absurd (y) zq)
      refine jx_T.step (pc' := 22) (st' := [_]) rfl rfl ?_
      exact jx_T.ret rfl rfl
    · refine cl.br rfl (jx_br_lt _ _) (fun zq => absurd zq (y)) (fun _ => ?_)
      obtain ⟨m, hm, rfl⟩ := rf_nn y
      rw [nI_toInt hm] at z
      refine jx_T.step (pc' := 5) (st' := [_]) rfl rfl ?_
      refine jx_T.step (pc' := 6) (st' := [_, _]) rfl rfl ?_
      refine cl.geti (h1).1 (h1).2 rfl rfl ?_
      refine cl.bc rfl (jx_br_ge _ _) (fun _ => ?_) (fun zq => absurd (nI_le (by omega) hm) zq)
      refine jx_T.step (pc' := 22) (st' := [_]) rfl rfl ?_
      exact jx_T.ret rfl rfl
def sv_ab (S : sv) (w : Int32) : Int32 := if w = 0 then S.1 else if w = 1 then (if sv_hot S = 0 then 0 else 1) else if w = 2 then S.2.2.1 else if w = 3 then S.2.2.2.1 else if w = 4 then S.2.2.2.2.1 else if w = 5 then sv_am S else if w = 6 then nI (sv_n S) else -1
theorem kc_about_no (n : cl_now W g x T) (i w : Int32) (hi : ¬ (0 ≤ i.toInt ∧ i.toInt < T.2.1)) : jx_T 109 0 (jx_ent 109 [.ref 1, .int i, .int w]) [] (hc W g nx s) (some (.int (-1))) (hc W g nx s) := by
  have cn := kc_now nx s n
  rcases kc_streamAt (W := W) nx s n.2.1 n.2.2 i with ⟨-, c⟩ | ⟨j, b, h1, rfl, -⟩
  · obtain ⟨s1, s2, s3, s4, f1, f2, f3, h1, -⟩ := n.2.1
    show jx_T 109 0 [.ref 1, .int i, .int w, .retAddr 0] [] _ _ _
    refine jx_T.step (pc' := 1) (st' := [_]) rfl rfl ?_
    refine cl.v0I (hc_fix 1 (by decide) (cw_c1 _)) rfl (by decide) rfl ⟨Nat.le_of_ble_eq_true rfl, rfl⟩ (Nat.le_of_ble_eq_true rfl) (cn) ?_
    refine jx_T.step (pc' := 5) (st' := [_, _]) rfl rfl ?_
    refine cl.v1I (hc_imm (h1).1 (h1).2) rfl (by decide) rfl ⟨Nat.le_of_ble_eq_true rfl, rfl⟩ (Nat.le_of_ble_eq_true rfl) (c) ?_
    refine jx_T.step (pc' := 9) (ls' := [_, _, _, _]) (st' := []) rfl rfl ?_
    refine jx_T.step (pc' := 10) (st' := [_]) rfl rfl ?_
    refine jx_T.step (pc' := 13) (st' := []) rfl rfl ?_
    refine jx_T.step (pc' := 14) (st' := [_]) rfl rfl ?_
    exact jx_T.ret rfl rfl
  · have := n.2.2.1
    rw [nI_toInt (by omega)] at hi
    omega
theorem kc_about (n : cl_now W g x T) (j : Nat) (hj : j < T.2.1) (w : Int32) : jx_T 109 0 (jx_ent 109 [.ref 1, .int (nI j), .int w]) [] (hc W g nx s) (some (.int (sv_ab (T.2.2.1 j) w))) (hc W g nx s) := by
  have cn := kc_now nx s n
  have hM := n.2.2.1
  rcases kc_streamAt (W := W) nx s n.2.1 n.2.2 (nI j) with ⟨q, -⟩ | ⟨m, b, h1, e, imb, c⟩
  · rw [nI_toInt (by omega)] at q
    omega
  · obtain rfl : j = m := (nI_inj (by omega) (by omega)).mp e
    obtain ⟨s1, s2, s3, s4, f1, f2, f3, h1, -⟩ := n.2.1
    obtain ⟨ad, af, q1, q2, q3⟩ := imb
    show jx_T 109 0 [.ref 1, .int (nI j), .int w, .retAddr 0] [] _ _ _
    refine jx_T.step (pc' := 1) (st' := [_]) rfl rfl ?_
    refine cl.v0I (hc_fix 1 (by decide) (cw_c1 _)) rfl (by decide) rfl ⟨Nat.le_of_ble_eq_true rfl, rfl⟩ (Nat.le_of_ble_eq_true rfl) (cn) ?_
    refine jx_T.step (pc' := 5) (st' := [_, _]) rfl rfl ?_
    refine cl.v1I (hc_imm (h1).1 (h1).2) rfl (by decide) rfl ⟨Nat.le_of_ble_eq_true rfl, rfl⟩ (Nat.le_of_ble_eq_true rfl) (c) ?_
    refine jx_T.step (pc' := 9) (ls' := [_, _, _, _]) (st' := []) rfl rfl ?_
    refine jx_T.step (pc' := 10) (st' := [_]) rfl rfl ?_
    refine jx_T.step (pc' := 15) (st' := []) rfl rfl ?_
    refine jx_T.step (pc' := 16) (st' := [_]) rfl rfl ?_
    by_cases hw : 0 ≤ w.toInt ∧ w.toInt ≤ 6
    · obtain ⟨k, hk, rfl⟩ := rf_nI (n := 6) hw (by decide)
      match k, hk with
      | 0, _ =>
        refine cl.swI (tgt := 60) (o := 44) rfl (by decide) (by decide) (by decide) ?_
        refine jx_T.step (pc' := 61) (st' := [_]) rfl rfl ?_
        refine cl.geti (q1).1 (q1).2 rfl rfl ?_
        exact jx_T.ret rfl rfl
      | 1, _ =>
        refine cl.swI (tgt := 65) (o := 49) rfl (by decide) (by decide) (by decide) ?_
        show jx_T 109 65 _ _ _ (some (.int (if sv_hot (T.2.2.1 j) = 0 then 0 else 1))) _
        refine jx_T.step (pc' := 66) (st' := [_]) rfl rfl ?_
        refine cl.geti (q1).1 (q1).2 rfl rfl ?_
        by_cases y : sv_hot (T.2.2.1 j) = 0
        · rw [if_pos y]
          refine cl.br rfl (jx_br_eq _ _) (fun _ => ?_) (fun zq => absurd (y) zq)
          refine jx_T.step (pc' := 77) (st' := [_]) rfl rfl ?_
          exact jx_T.ret rfl rfl
        · rw [if_neg y]
          refine cl.br rfl (jx_br_eq _ _) (fun zq => absurd zq (y)) (fun _ => ?_)
          refine jx_T.step (pc' := 73) (st' := [_]) rfl rfl ?_
          refine jx_T.step (pc' := 77) (st' := [_]) rfl rfl ?_
          exact jx_T.ret rfl rfl
      | 2, _ =>
        refine cl.swI (tgt := 78) (o := 62) rfl (by decide) (by decide) (by decide) ?_
        refine jx_T.step (pc' := 79) (st' := [_]) rfl rfl ?_
        refine cl.geti (q1).1 (q1).2 rfl rfl ?_
        exact jx_T.ret rfl rfl
      | 3, _ =>
        refine cl.swI (tgt := 83) (o := 67) rfl (by decide) (by decide) (by decide) ?_
        refine jx_T.step (pc' := 84) (st' := [_]) rfl rfl ?_
        refine cl.geti (q1).1 (q1).2 rfl rfl ?_
        exact jx_T.ret rfl rfl
      | 4, _ =>
        refine cl.swI (tgt := 88) (o := 72) rfl (by decide) (by decide) (by decide) ?_
        refine jx_T.step (pc' := 89) (st' := [_]) rfl rfl ?_
        refine cl.geti (q1).1 (q1).2 rfl rfl ?_
        exact jx_T.ret rfl rfl
      | 5, _ =>
        refine cl.swI (tgt := 93) (o := 77) rfl (by decide) (by decide) (by decide) ?_
        refine jx_T.step (pc' := 94) (st' := [_]) rfl rfl ?_
        refine cl.geti (q1).1 (q1).2 rfl rfl ?_
        exact jx_T.ret rfl rfl
      | 6, _ =>
        refine cl.swI (tgt := 98) (o := 82) rfl (by decide) (by decide) (by decide) ?_
        refine jx_T.step (pc' := 99) (st' := [_]) rfl rfl ?_
        refine cl.geti (q1).1 (q1).2 rfl rfl ?_
        refine cl.aleni (q2).1 (q2).2 rfl (Or.inl (by decide)) ?_
        exact jx_T.ret rfl rfl
    · refine cl.swO (tgt := 104) rfl hw (by decide) ?_
      unfold sv_ab
      rw [if_neg (fun q => hw (by rw [q]; decide)), if_neg (fun q => hw (by rw [q]; decide)), if_neg (fun q => hw (by rw [q]; decide)), if_neg (fun q => hw (by rw [q]; decide)), if_neg (fun q => hw (by rw [q]; decide)), if_neg (fun q => hw (by rw [q]; decide)), if_neg (fun q => hw (by rw [q]; decide))]
      refine jx_T.step (pc' := 105) (st' := [_]) rfl rfl ?_
      exact jx_T.ret rfl rfl
end
