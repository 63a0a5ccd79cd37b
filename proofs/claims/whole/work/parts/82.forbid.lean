/-! the works: forbid -/
section
variable {W : cw} {g : Nat → Option jx_E} {B D x : Nat} {T : tv} {nx s : Nat}
theorem kc_forbid_1 (n : cl_now W g x T) (a c i : Int32) (hb : ¬ ((0 ≤ a.toInt ∧ a.toInt < T.2.1) ∧ (0 ≤ c.toInt ∧ c.toInt < T.2.1))) : jx_T 104 0 (jx_ent 104 [.ref 1, .int a, .int c, .int i]) [] (hc W g nx s) (some (.int 1)) (hc W g nx s) := by
  have cn := kc_now nx s n
  have hM := n.2.2.1
  have sa := kc_streamAt (W := W) nx s n.2.1 n.2.2 a
  have sc := kc_streamAt (W := W) nx s n.2.1 n.2.2 c
  obtain ⟨s1, s2, s3, s4, f1, f2, f3, h1, -⟩ := n.2.1
  show jx_T 104 0 [.ref 1, .int a, .int c, .int i, .retAddr 0, .retAddr 0] [] _ _ _
  rcases sa with ⟨na, ca⟩ | ⟨ja, ba, la, rfl, ia, ca⟩
  · rcases sc with ⟨nc, cc⟩ | ⟨jc, bc, lc, rfl, ic, cc⟩
    · refine jx_T.step (pc' := 1) (st' := [_]) rfl rfl ?_
      refine cl.v0I (hc_fix 1 (by decide) (cw_c1 _)) rfl (by decide) rfl ⟨Nat.le_of_ble_eq_true rfl, rfl⟩ (Nat.le_of_ble_eq_true rfl) (cn) ?_
      refine jx_T.step (pc' := 5) (st' := [_, _]) rfl rfl ?_
      refine cl.v1I (hc_imm (h1).1 (h1).2) rfl (by decide) rfl ⟨Nat.le_of_ble_eq_true rfl, rfl⟩ (Nat.le_of_ble_eq_true rfl) (ca) ?_
      refine jx_T.step (pc' := 10) (ls' := [_, _, _, _, _, _]) (st' := []) rfl rfl ?_
      refine jx_T.step (pc' := 11) (st' := [_]) rfl rfl ?_
      refine cl.v0I (hc_fix 1 (by decide) (cw_c1 _)) rfl (by decide) rfl ⟨Nat.le_of_ble_eq_true rfl, rfl⟩ (Nat.le_of_ble_eq_true rfl) (cn) ?_
      refine jx_T.step (pc' := 15) (st' := [_, _]) rfl rfl ?_
      refine cl.v1I (hc_imm (h1).1 (h1).2) rfl (by decide) rfl ⟨Nat.le_of_ble_eq_true rfl, rfl⟩ (Nat.le_of_ble_eq_true rfl) (cc) ?_
      refine jx_T.step (pc' := 20) (ls' := [_, _, _, _, _, _]) (st' := []) rfl rfl ?_
      refine jx_T.step (pc' := 22) (st' := [_]) rfl rfl ?_
      refine jx_T.step (pc' := 30) (st' := []) rfl rfl ?_
      refine jx_T.step (pc' := 31) (st' := [_]) rfl rfl ?_
      exact jx_T.ret rfl rfl
    · refine jx_T.step (pc' := 1) (st' := [_]) rfl rfl ?_
      refine cl.v0I (hc_fix 1 (by decide) (cw_c1 _)) rfl (by decide) rfl ⟨Nat.le_of_ble_eq_true rfl, rfl⟩ (Nat.le_of_ble_eq_true rfl) (cn) ?_
      refine jx_T.step (pc' := 5) (st' := [_, _]) rfl rfl ?_
      refine cl.v1I (hc_imm (h1).1 (h1).2) rfl (by decide) rfl ⟨Nat.le_of_ble_eq_true rfl, rfl⟩ (Nat.le_of_ble_eq_true rfl) (ca) ?_
      refine jx_T.step (pc' := 10) (ls' := [_, _, _, _, _, _]) (st' := []) rfl rfl ?_
      refine jx_T.step (pc' := 11) (st' := [_]) rfl rfl ?_
      refine cl.v0I (hc_fix 1 (by decide) (cw_c1 _)) rfl (by decide) rfl ⟨Nat.le_of_ble_eq_true rfl, rfl⟩ (Nat.le_of_ble_eq_true rfl) (cn) ?_
      refine jx_T.step (pc' := 15) (st' := [_, _]) rfl rfl ?_
      refine cl.v1I (hc_imm (h1).1 (h1).2) rfl (by decide) rfl ⟨Nat.le_of_ble_eq_true rfl, rfl⟩ (Nat.le_of_ble_eq_true rfl) (cc) ?_
      refine jx_T.step (pc' := 20) (ls' := [_, _, _, _, _, _]) (st' := []) rfl rfl ?_
      refine jx_T.step (pc' := 22) (st' := [_]) rfl rfl ?_
      refine jx_T.step (pc' := 30) (st' := []) rfl rfl ?_
      refine jx_T.step (pc' := 31) (st' := [_]) rfl rfl ?_
      exact jx_T.ret rfl rfl
  · rcases sc with ⟨nc, cc⟩ | ⟨jc, bc, lc, rfl, ic, cc⟩
    · refine jx_T.step (pc' := 1) (st' := [_]) rfl rfl ?_
      refine cl.v0I (hc_fix 1 (by decide) (cw_c1 _)) rfl (by decide) rfl ⟨Nat.le_of_ble_eq_true rfl, rfl⟩ (Nat.le_of_ble_eq_true rfl) (cn) ?_
      refine jx_T.step (pc' := 5) (st' := [_, _]) rfl rfl ?_
      refine cl.v1I (hc_imm (h1).1 (h1).2) rfl (by decide) rfl ⟨Nat.le_of_ble_eq_true rfl, rfl⟩ (Nat.le_of_ble_eq_true rfl) (ca) ?_
      refine jx_T.step (pc' := 10) (ls' := [_, _, _, _, _, _]) (st' := []) rfl rfl ?_
      refine jx_T.step (pc' := 11) (st' := [_]) rfl rfl ?_
      refine cl.v0I (hc_fix 1 (by decide) (cw_c1 _)) rfl (by decide) rfl ⟨Nat.le_of_ble_eq_true rfl, rfl⟩ (Nat.le_of_ble_eq_true rfl) (cn) ?_
      refine jx_T.step (pc' := 15) (st' := [_, _]) rfl rfl ?_
      refine cl.v1I (hc_imm (h1).1 (h1).2) rfl (by decide) rfl ⟨Nat.le_of_ble_eq_true rfl, rfl⟩ (Nat.le_of_ble_eq_true rfl) (cc) ?_
      refine jx_T.step (pc' := 20) (ls' := [_, _, _, _, _, _]) (st' := []) rfl rfl ?_
      refine jx_T.step (pc' := 22) (st' := [_]) rfl rfl ?_
      refine jx_T.step (pc' := 25) (st' := []) rfl rfl ?_
      refine jx_T.step (pc' := 27) (st' := [_]) rfl rfl ?_
      refine jx_T.step (pc' := 30) (st' := []) rfl rfl ?_
      refine jx_T.step (pc' := 31) (st' := [_]) rfl rfl ?_
      exact jx_T.ret rfl rfl
    · refine absurd ?_ hb
      rw [nI_toInt (by omega), nI_toInt (by omega)]
      omega
theorem kc_forbid_6 (n : cl_now W g x T) (a c : Nat) (ha : a < T.2.1) (hc2 : c < T.2.1) (i : Int32) (hb : sv_hot (T.2.2.1 a) = 0 ∨ ¬ sv_hot (T.2.2.1 c) = 0) : jx_T 104 0 (jx_ent 104 [.ref 1, .int (nI a), .int (nI c), .int i]) [] (hc W g nx s) (some (.int 6)) (hc W g nx s) := by
  have cn := kc_now nx s n
  have hM := n.2.2.1
  have sa := kc_streamAt (W := W) nx s n.2.1 n.2.2 (nI a)
  have sc := kc_streamAt (W := W) nx s n.2.1 n.2.2 (nI c)
  obtain ⟨s1, s2, s3, s4, f1, f2, f3, h1, -⟩ := n.2.1
  rcases sa with ⟨q, -⟩ | ⟨ja, ba, la, e1, ia, ca⟩
  · rw [nI_toInt (by omega)] at q
    omega
  rcases sc with ⟨q, -⟩ | ⟨jc, bc, lc, e2, ic, cc⟩
  · rw [nI_toInt (by omega)] at q
    omega
  obtain rfl : a = ja := (nI_inj (by omega) (by omega)).mp e1
  obtain rfl : c = jc := (nI_inj (by omega) (by omega)).mp e2
  obtain ⟨d1, d2, p1, -⟩ := ia
  obtain ⟨d3, d4, p2, -⟩ := ic
  show jx_T 104 0 [.ref 1, .int (nI a), .int (nI c), .int i, .retAddr 0, .retAddr 0] [] _ _ _
  refine jx_T.step (pc' := 1) (st' := [_]) rfl rfl ?_
  refine cl.v0I (hc_fix 1 (by decide) (cw_c1 _)) rfl (by decide) rfl ⟨Nat.le_of_ble_eq_true rfl, rfl⟩ (Nat.le_of_ble_eq_true rfl) (cn) ?_
  refine jx_T.step (pc' := 5) (st' := [_, _]) rfl rfl ?_
  refine cl.v1I (hc_imm (h1).1 (h1).2) rfl (by decide) rfl ⟨Nat.le_of_ble_eq_true rfl, rfl⟩ (Nat.le_of_ble_eq_true rfl) (ca) ?_
  refine jx_T.step (pc' := 10) (ls' := [_, _, _, _, _, _]) (st' := []) rfl rfl ?_
  refine jx_T.step (pc' := 11) (st' := [_]) rfl rfl ?_
  refine cl.v0I (hc_fix 1 (by decide) (cw_c1 _)) rfl (by decide) rfl ⟨Nat.le_of_ble_eq_true rfl, rfl⟩ (Nat.le_of_ble_eq_true rfl) (cn) ?_
  refine jx_T.step (pc' := 15) (st' := [_, _]) rfl rfl ?_
  refine cl.v1I (hc_imm (h1).1 (h1).2) rfl (by decide) rfl ⟨Nat.le_of_ble_eq_true rfl, rfl⟩ (Nat.le_of_ble_eq_true rfl) (cc) ?_
  refine jx_T.step (pc' := 20) (ls' := [_, _, _, _, _, _]) (st' := []) rfl rfl ?_
  refine jx_T.step (pc' := 22) (st' := [_]) rfl rfl ?_
  refine jx_T.step (pc' := 25) (st' := []) rfl rfl ?_
  refine jx_T.step (pc' := 27) (st' := [_]) rfl rfl ?_
  refine jx_T.step (pc' := 32) (st' := []) rfl rfl ?_
  refine jx_T.step (pc' := 34) (st' := [_]) rfl rfl ?_
  refine cl.geti (p1).1 (p1).2 rfl rfl ?_
  by_cases z : sv_hot (T.2.2.1 a) = 0
  · refine cl.br rfl (jx_br_eq _ _) (fun _ => ?_) (fun zq => absurd (z) zq)
    refine jx_T.step (pc' := 50) (st' := [_]) rfl rfl ?_
    exact jx_T.ret rfl rfl
  · refine cl.br rfl (jx_br_eq _ _) (fun zq => absurd zq (z)) (fun _ => ?_)
    refine jx_T.step (pc' := 42) (st' := [_]) rfl rfl ?_
    refine cl.geti (p2).1 (p2).2 rfl rfl ?_
    refine cl.br rfl (jx_br_eq _ _) (fun zq => absurd zq (hb.resolve_left z)) (fun _ => ?_)
    refine jx_T.step (pc' := 50) (st' := [_]) rfl rfl ?_
    exact jx_T.ret rfl rfl
theorem kc_forbid (hn : 35 ≤ nx) (hf : ∀ a, nx ≤ a → g a = none) (h : kn_at W g B D x T) (a c : Nat) (ha : a < T.2.1) (hc2 : c < T.2.1) (i : Int32) (hb1 : ¬ sv_hot (T.2.2.1 a) = 0) (hb2 : sv_hot (T.2.2.1 c) = 0) : ∃ g2, jx_T 104 0 (jx_ent 104 [.ref 1, .int (nI a), .int (nI c), .int i]) [] (hc W g nx s) (some (.int 0)) (hc (kw_act W B D (nx + 1)) g2 (nx + 2) (s + 12 + 6)) ∧ ge g g2 ∧ (∀ a, nx + 2 ≤ a → g2 a = none) ∧ kn_at (kw_act W B D (nx + 1)) g2 (kB B D) (kD D) (nx + 1) (T.1, T.2.1, T.2.2.1, T.2.2.2.1, T.2.2.2.2.1, upd T.2.2.2.2.2 a (fb_v (T.2.2.2.2.2 a) (nI c) i)) := by
  have n := h.n
  have cn := kc_now nx s n
  have hM := n.2.2.1
  have sa := kc_streamAt (W := W) nx s n.2.1 n.2.2 (nI a)
  have sc := kc_streamAt (W := W) nx s n.2.1 n.2.2 (nI c)
  obtain ⟨⟨h1, h2, h3, h4, h5⟩, im, ok⟩ := h
  obtain ⟨g2, cw2, u, im2, fr⟩ := kc_withForbidden (W := W) (s := s) hn hf im a (by omega) (nI c) i
  refine ⟨g2, ?_, u, fr, kn_at.act ⟨⟨h1, h2, h3, h4, h5⟩, im, ok⟩ im2 ok⟩
  obtain ⟨t1, t2, t3, t4, e3, e4, e5, k1, -⟩ := im2
  have cact := kc_act (W := W) (g := g2) (nx := nx + 2) (s := s + 12 + 6) B D h1 h2 h3 h4 k1
  obtain ⟨s1, s2, s3, s4, f1, f2, f3, q1, -⟩ := im
  rcases sa with ⟨q, -⟩ | ⟨ja, ba, la, e1, ia, ca⟩
  · rw [nI_toInt (by omega)] at q
    omega
  rcases sc with ⟨q, -⟩ | ⟨jc, bc, lc, e2, ic, cc⟩
  · rw [nI_toInt (by omega)] at q
    omega
  obtain rfl : a = ja := (nI_inj (by omega) (by omega)).mp e1
  obtain rfl : c = jc := (nI_inj (by omega) (by omega)).mp e2
  obtain ⟨d1, d2, p1, -⟩ := ia
  obtain ⟨d3, d4, p2, -⟩ := ic
  show jx_T 104 0 [.ref 1, .int (nI a), .int (nI c), .int i, .retAddr 0, .retAddr 0] [] _ _ _
  refine jx_T.step (pc' := 1) (st' := [_]) rfl rfl ?_
  refine cl.v0I (hc_fix 1 (by decide) (cw_c1 _)) rfl (by decide) rfl ⟨Nat.le_of_ble_eq_true rfl, rfl⟩ (Nat.le_of_ble_eq_true rfl) (cn) ?_
  refine jx_T.step (pc' := 5) (st' := [_, _]) rfl rfl ?_
  refine cl.v1I (hc_imm (q1).1 (q1).2) rfl (by decide) rfl ⟨Nat.le_of_ble_eq_true rfl, rfl⟩ (Nat.le_of_ble_eq_true rfl) (ca) ?_
  refine jx_T.step (pc' := 10) (ls' := [_, _, _, _, _, _]) (st' := []) rfl rfl ?_
  refine jx_T.step (pc' := 11) (st' := [_]) rfl rfl ?_
  refine cl.v0I (hc_fix 1 (by decide) (cw_c1 _)) rfl (by decide) rfl ⟨Nat.le_of_ble_eq_true rfl, rfl⟩ (Nat.le_of_ble_eq_true rfl) (cn) ?_
  refine jx_T.step (pc' := 15) (st' := [_, _]) rfl rfl ?_
  refine cl.v1I (hc_imm (q1).1 (q1).2) rfl (by decide) rfl ⟨Nat.le_of_ble_eq_true rfl, rfl⟩ (Nat.le_of_ble_eq_true rfl) (cc) ?_
  refine jx_T.step (pc' := 20) (ls' := [_, _, _, _, _, _]) (st' := []) rfl rfl ?_
  refine jx_T.step (pc' := 22) (st' := [_]) rfl rfl ?_
  refine jx_T.step (pc' := 25) (st' := []) rfl rfl ?_
  refine jx_T.step (pc' := 27) (st' := [_]) rfl rfl ?_
  refine jx_T.step (pc' := 32) (st' := []) rfl rfl ?_
  refine jx_T.step (pc' := 34) (st' := [_]) rfl rfl ?_
  refine cl.geti (p1).1 (p1).2 rfl rfl ?_
  refine cl.br rfl (jx_br_eq _ _) (fun zq => absurd zq (hb1)) (fun _ => ?_)
  refine jx_T.step (pc' := 42) (st' := [_]) rfl rfl ?_
  refine cl.geti (p2).1 (p2).2 rfl rfl ?_
  refine cl.br rfl (jx_br_eq _ _) (fun _ => ?_) (fun zq => absurd (hb2) zq)
  refine jx_T.step (pc' := 52) (st' := [_]) rfl rfl ?_
  refine jx_T.step (pc' := 53) (st' := [_, _]) rfl rfl ?_
  refine cl.v0I (hc_fix 1 (by decide) (cw_c1 _)) rfl (by decide) rfl ⟨Nat.le_of_ble_eq_true rfl, rfl⟩ (Nat.le_of_ble_eq_true rfl) (cn) ?_
  refine jx_T.step (pc' := 57) (st' := [_, _, _]) rfl rfl ?_
  refine jx_T.step (pc' := 58) (st' := [_, _, _, _]) rfl rfl ?_
  refine jx_T.step (pc' := 59) (st' := [_, _, _, _, _]) rfl rfl ?_
  refine cl.v3I (hc_imm (q1).1 (q1).2) rfl (by decide) rfl ⟨Nat.le_of_ble_eq_true rfl, rfl⟩ (Nat.le_of_ble_eq_true rfl) (cw2) ?_
  refine cl.v1I (hc_fix 1 (by decide) (cw_c1 _)) rfl (by decide) rfl ⟨Nat.le_of_ble_eq_true rfl, rfl⟩ (Nat.le_of_ble_eq_true rfl) (cact) ?_
  exact jx_T.ret rfl rfl
end
