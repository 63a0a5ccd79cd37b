/-! the works' constructor, its first state -/
section
variable {m pc : Nat} {ls st : List Value} {h h2 : jx_H} {s : Nat} {p q : List jx_E} {o : jx_E} {v : Option Value}
theorem ha_getq (h : jx_H) (s : Nat) (p q : List jx_E) (o : jx_E) {j : Nat} {e : jx_E} (hj : q[j]? = some e) : (ha h s (p ++ o :: q)).2.2 (h.1 + (p.length + (j + 1))) = some e := by
  have hl : j < q.length := (List.getElem?_eq_some_iff.mp hj).1
  show (if h.1 ≤ h.1 + (p.length + (j + 1)) ∧ h.1 + (p.length + (j + 1)) < h.1 + (p ++ o :: q).length then (p ++ o :: q)[h.1 + (p.length + (j + 1)) - h.1]? else _) = _
  rw [ha_len, if_pos (by omega), show h.1 + (p.length + (j + 1)) - h.1 = p.length + (j + 1) by omega, List.getElem?_append_right (by omega), show p.length + (j + 1) - p.length = j + 1 by omega]
  exact hj
theorem ha.aast {t n c j : Nat} {f : Nat → Option Nat} {fs : List Value} {x y : Nat} {vv : Value} {i : Int32} (hr : jx_rc m pc = some (.aastore, 1, x, y, vv)) (hj : q[j]? = some (.inr (c, fs))) (ht : (4 ≤ t ∧ t < 8) ∧ c = jx_acl.getD t 99) (hi : ¬ (i < 0) ∧ i.toNatClampNeg < n) (k : jx_T m (pc + 1) ls st (ha h s (p ++ .inl (t, n, .inr (.inr (.inr (.inr (va_up f i.toNatClampNeg (some (h.1 + (p.length + (j + 1)))))))))  :: q)) v h2) : jx_T m pc ls (.ref (h.1 + (p.length + (j + 1))) :: .int i :: .ref (h.1 + p.length) :: st) (ha h s (p ++ .inl (t, n, .inr (.inr (.inr (.inr f)))) :: q)) v h2 := by
  refine jx_T.aast hr (ha_get h s p q _) (ha_getq h s p q _ hj) ht hi ?_
  rw [ha_set]
  exact k
theorem ha.newA0 {n len x y : Nat} {vv : Value} {k : Int32} (hr : jx_rc m pc = some (.anewarray n, len, x, y, vv)) (hk : ¬ (k < 0) ∧ k.toNatClampNeg ≤ 1000000) (kk : jx_T m (pc + 3) ls (.ref h.1 :: st) (ha h (s + k.toNatClampNeg) [.inl (x, k.toNatClampNeg, .inr (.inr (.inr (.inr fun _ => none))))]) v h2) : jx_T m pc ls (.int k :: st) (ha h s []) v h2 := by
  refine jx_T.step hr (h1 := jx_new (ha h s []) k.toNatClampNeg (.inl (x, k.toNatClampNeg, .inr (.inr (.inr (.inr fun _ => none)))))) (pc' := pc + 3) (ls' := ls) (st' := .ref (ha h s []).1 :: st) ?_ ?_
  · simp [jx_act, hk, jx_go]
  · rw [ha_new]
    exact kk
end
theorem ki_30 (h : jx_H) (s : Nat) (p q : List jx_E) (x : Int32) (a b c : Nat) : jx_T 30 0 (jx_ent 30 [.ref (h.1 + p.length), .int x, .ref a, .ref b, .ref c]) [] (ha h s (p ++ .inr (4, jx_dfl.getD 4 []) :: q)) none (ha h s (p ++ .inr (4, [.int x, .ref a, .ref b, .ref c]) :: q)) := by
  show jx_T 30 0 [.ref (h.1 + p.length), .int x, .ref a, .ref b, .ref c] [] _ _ _
  refine jx_T.step (pc' := 1) (st' := [_]) rfl rfl ?_
  refine jx_T.step (pc' := 4) (st' := []) rfl rfl ?_
  refine jx_T.step (pc' := 5) (st' := [_]) rfl rfl ?_
  refine jx_T.step (pc' := 6) (st' := [_, _]) rfl rfl ?_
  refine ha.put rfl rfl rfl ?_
  refine jx_T.step (pc' := 10) (st' := [_]) rfl rfl ?_
  refine jx_T.step (pc' := 11) (st' := [_, _]) rfl rfl ?_
  refine ha.put rfl rfl rfl ?_
  refine jx_T.step (pc' := 15) (st' := [_]) rfl rfl ?_
  refine jx_T.step (pc' := 16) (st' := [_, _]) rfl rfl ?_
  refine ha.put rfl rfl rfl ?_
  refine jx_T.step (pc' := 20) (st' := [_]) rfl rfl ?_
  refine jx_T.step (pc' := 22) (st' := [_, _]) rfl rfl ?_
  refine ha.put rfl rfl rfl ?_
  exact jx_T.ret rfl rfl
theorem ki_70 (h : jx_H) (s : Nat) (p q : List jx_E) (x y : Int32) (a b c d : Nat) : jx_T 70 0 (jx_ent 70 [.ref (h.1 + p.length), .int x, .int y, .ref a, .ref b, .ref c, .ref d]) [] (ha h s (p ++ .inr (9, jx_dfl.getD 9 []) :: q)) none (ha h s (p ++ .inr (9, [.int x, .int y, .ref a, .ref b, .ref c, .ref d]) :: q)) := by
  show jx_T 70 0 [.ref (h.1 + p.length), .int x, .int y, .ref a, .ref b, .ref c, .ref d] [] _ _ _
  refine jx_T.step (pc' := 1) (st' := [_]) rfl rfl ?_
  refine jx_T.step (pc' := 4) (st' := []) rfl rfl ?_
  refine jx_T.step (pc' := 5) (st' := [_]) rfl rfl ?_
  refine jx_T.step (pc' := 6) (st' := [_, _]) rfl rfl ?_
  refine ha.put rfl rfl rfl ?_
  refine jx_T.step (pc' := 10) (st' := [_]) rfl rfl ?_
  refine jx_T.step (pc' := 11) (st' := [_, _]) rfl rfl ?_
  refine ha.put rfl rfl rfl ?_
  refine jx_T.step (pc' := 15) (st' := [_]) rfl rfl ?_
  refine jx_T.step (pc' := 16) (st' := [_, _]) rfl rfl ?_
  refine ha.put rfl rfl rfl ?_
  refine jx_T.step (pc' := 20) (st' := [_]) rfl rfl ?_
  refine jx_T.step (pc' := 22) (st' := [_, _]) rfl rfl ?_
  refine ha.put rfl rfl rfl ?_
  refine jx_T.step (pc' := 26) (st' := [_]) rfl rfl ?_
  refine jx_T.step (pc' := 28) (st' := [_, _]) rfl rfl ?_
  refine ha.put rfl rfl rfl ?_
  refine jx_T.step (pc' := 32) (st' := [_]) rfl rfl ?_
  refine jx_T.step (pc' := 34) (st' := [_, _]) rfl rfl ?_
  refine ha.put rfl rfl rfl ?_
  exact jx_T.ret rfl rfl
def nc (b : Nat) : List jx_E := [.inr (4, [.int 0, .ref (b + 1), .ref (b + 2), .ref (b + 3)]), .inl (0, 0, .inl fun _ => 0), .inl (0, 0, .inl fun _ => 0), .inl (0, 0, .inl fun _ => 0)]
def nz0 (b : Nat) : Nat → Option Nat := fun _ => none
def nq0 (b : Nat) : List jx_E := []
def ns0 (s : Nat) : Nat := s + 4
def nz1 (b : Nat) : Nat → Option Nat := va_up (nz0 b) 0 (some (b + 1))
def nq1 (b : Nat) : List jx_E := nq0 b ++ nc (b + 1)
def ns1 (s : Nat) : Nat := ns0 s + 4 + 0 + 0 + 0
def nz2 (b : Nat) : Nat → Option Nat := va_up (nz1 b) 1 (some (b + 5))
def nq2 (b : Nat) : List jx_E := nq1 b ++ nc (b + 5)
def ns2 (s : Nat) : Nat := ns1 s + 4 + 0 + 0 + 0
def nz3 (b : Nat) : Nat → Option Nat := va_up (nz2 b) 2 (some (b + 9))
def nq3 (b : Nat) : List jx_E := nq2 b ++ nc (b + 9)
def ns3 (s : Nat) : Nat := ns2 s + 4 + 0 + 0 + 0
def nz4 (b : Nat) : Nat → Option Nat := va_up (nz3 b) 3 (some (b + 13))
def nq4 (b : Nat) : List jx_E := nq3 b ++ nc (b + 13)
def ns4 (s : Nat) : Nat := ns3 s + 4 + 0 + 0 + 0
def kc69 (b : Nat) : List jx_E := .inl (4, 4, .inr (.inr (.inr (.inr (nz4 b))))) :: (nq4 b ++ [.inr (9, [.int 10, .int 0, .ref (b + 18), .ref (b + 19), .ref b, .ref (b + 20)]), .inl (7, 12, .inr (.inr (.inr (.inr fun _ => none)))), .inl (5, 8, .inr (.inr (.inr (.inr fun _ => none)))), .inl (0, 12, .inl fun _ => 0)])
def kz69 (s : Nat) : Nat := ns4 s + 6 + 12 + 8 + 12
theorem ki_69_0 (h h2 : jx_H) (s : Nat) (v : Option Value) (t : jx_T 69 7 [.ref h.1, .int 1] [] (ha h (ns1 s) (([] : List jx_E) ++ .inl (4, 4, .inr (.inr (.inr (.inr (nz1 h.1))))) :: nq1 h.1)) v h2) : jx_T 69 7 [.ref h.1, .int 0] [] (ha h (ns0 s) (([] : List jx_E) ++ .inl (4, 4, .inr (.inr (.inr (.inr (nz0 h.1))))) :: nq0 h.1)) v h2 := by
  refine jx_T.step (pc' := 8) (st' := [_]) rfl rfl ?_
  refine jx_T.step (pc' := 9) (st' := [_, _]) rfl rfl ?_
  refine jx_T.ic_f rfl (fun _ _ _ => rfl) ?_
  refine jx_T.step (pc' := 13) (st' := [_]) rfl rfl ?_
  refine jx_T.step (pc' := 14) (st' := [_, _]) rfl rfl ?_
  refine ha.newo rfl ?_
  refine jx_T.step (pc' := 18) (st' := [_, _, _, _]) rfl rfl ?_
  refine jx_T.step (pc' := 19) (st' := [_, _, _, _, _]) rfl rfl ?_
  refine jx_T.step (pc' := 20) (st' := [_, _, _, _, _, _]) rfl rfl ?_
  refine ha.newI rfl (by decide) (by decide) ?_
  refine jx_T.step (pc' := 23) (st' := [_, _, _, _, _, _, _]) rfl rfl ?_
  refine ha.newI rfl (by decide) (by decide) ?_
  refine jx_T.step (pc' := 26) (st' := [_, _, _, _, _, _, _, _]) rfl rfl ?_
  refine ha.newI rfl (by decide) (by decide) ?_
  show jx_T 69 28 [.ref h.1, .int 0] [.ref (h.1 + 4), .ref (h.1 + 3), .ref (h.1 + 2), .int 0, .ref (h.1 + (.inl (4, 4, .inr (.inr (.inr (.inr (nz0 h.1))))) :: nq0 h.1).length), .ref (h.1 + (([] : List jx_E).length + (0 + 1))), .int 0, .ref (h.1 + ([] : List jx_E).length)] (ha h (ns1 s) ((.inl (4, 4, .inr (.inr (.inr (.inr (nz0 h.1))))) :: nq0 h.1) ++ .inr (4, jx_dfl.getD 4 []) :: [.inl (0, 0, .inl fun _ => 0), .inl (0, 0, .inl fun _ => 0), .inl (0, 0, .inl fun _ => 0)])) v h2
  refine jx_T.spec rfl (by decide) rfl (Nat.le_of_ble_eq_true rfl) rfl (Nat.le_of_ble_eq_true rfl) (ki_30 h _ (.inl (4, 4, .inr (.inr (.inr (.inr (nz0 h.1))))) :: nq0 h.1) _ _ _ _ _) ?_
  show jx_T 69 31 [.ref h.1, .int 0] [.ref (h.1 + (([] : List jx_E).length + (0 + 1))), .int 0, .ref (h.1 + ([] : List jx_E).length)] (ha h (ns1 s) (([] : List jx_E) ++ .inl (4, 4, .inr (.inr (.inr (.inr (nz0 h.1))))) :: nq1 h.1)) v h2
  refine ha.aast rfl rfl (by decide) (by decide) ?_
  refine jx_T.step (pc' := 35) (ls' := [_, _]) (st' := []) rfl rfl ?_
  refine jx_T.step (pc' := 7) (st' := []) rfl rfl ?_
  exact t
theorem ki_69_1 (h h2 : jx_H) (s : Nat) (v : Option Value) (t : jx_T 69 7 [.ref h.1, .int 2] [] (ha h (ns2 s) (([] : List jx_E) ++ .inl (4, 4, .inr (.inr (.inr (.inr (nz2 h.1))))) :: nq2 h.1)) v h2) : jx_T 69 7 [.ref h.1, .int 1] [] (ha h (ns1 s) (([] : List jx_E) ++ .inl (4, 4, .inr (.inr (.inr (.inr (nz1 h.1))))) :: nq1 h.1)) v h2 := by
  refine jx_T.step (pc' := 8) (st' := [_]) rfl rfl ?_
  refine jx_T.step (pc' := 9) (st' := [_, _]) rfl rfl ?_
  refine jx_T.ic_f rfl (fun _ _ _ => rfl) ?_
  refine jx_T.step (pc' := 13) (st' := [_]) rfl rfl ?_
  refine jx_T.step (pc' := 14) (st' := [_, _]) rfl rfl ?_
  refine ha.newo rfl ?_
  refine jx_T.step (pc' := 18) (st' := [_, _, _, _]) rfl rfl ?_
  refine jx_T.step (pc' := 19) (st' := [_, _, _, _, _]) rfl rfl ?_
  refine jx_T.step (pc' := 20) (st' := [_, _, _, _, _, _]) rfl rfl ?_
  refine ha.newI rfl (by decide) (by decide) ?_
  refine jx_T.step (pc' := 23) (st' := [_, _, _, _, _, _, _]) rfl rfl ?_
  refine ha.newI rfl (by decide) (by decide) ?_
  refine jx_T.step (pc' := 26) (st' := [_, _, _, _, _, _, _, _]) rfl rfl ?_
  refine ha.newI rfl (by decide) (by decide) ?_
  show jx_T 69 28 [.ref h.1, .int 1] [.ref (h.1 + 8), .ref (h.1 + 7), .ref (h.1 + 6), .int 0, .ref (h.1 + (.inl (4, 4, .inr (.inr (.inr (.inr (nz1 h.1))))) :: nq1 h.1).length), .ref (h.1 + (([] : List jx_E).length + (4 + 1))), .int 1, .ref (h.1 + ([] : List jx_E).length)] (ha h (ns2 s) ((.inl (4, 4, .inr (.inr (.inr (.inr (nz1 h.1))))) :: nq1 h.1) ++ .inr (4, jx_dfl.getD 4 []) :: [.inl (0, 0, .inl fun _ => 0), .inl (0, 0, .inl fun _ => 0), .inl (0, 0, .inl fun _ => 0)])) v h2
  refine jx_T.spec rfl (by decide) rfl (Nat.le_of_ble_eq_true rfl) rfl (Nat.le_of_ble_eq_true rfl) (ki_30 h _ (.inl (4, 4, .inr (.inr (.inr (.inr (nz1 h.1))))) :: nq1 h.1) _ _ _ _ _) ?_
  show jx_T 69 31 [.ref h.1, .int 1] [.ref (h.1 + (([] : List jx_E).length + (4 + 1))), .int 1, .ref (h.1 + ([] : List jx_E).length)] (ha h (ns2 s) (([] : List jx_E) ++ .inl (4, 4, .inr (.inr (.inr (.inr (nz1 h.1))))) :: nq2 h.1)) v h2
  refine ha.aast rfl rfl (by decide) (by decide) ?_
  refine jx_T.step (pc' := 35) (ls' := [_, _]) (st' := []) rfl rfl ?_
  refine jx_T.step (pc' := 7) (st' := []) rfl rfl ?_
  exact t
theorem ki_69_2 (h h2 : jx_H) (s : Nat) (v : Option Value) (t : jx_T 69 7 [.ref h.1, .int 3] [] (ha h (ns3 s) (([] : List jx_E) ++ .inl (4, 4, .inr (.inr (.inr (.inr (nz3 h.1))))) :: nq3 h.1)) v h2) : jx_T 69 7 [.ref h.1, .int 2] [] (ha h (ns2 s) (([] : List jx_E) ++ .inl (4, 4, .inr (.inr (.inr (.inr (nz2 h.1))))) :: nq2 h.1)) v h2 := by
  refine jx_T.step (pc' := 8) (st' := [_]) rfl rfl ?_
  refine jx_T.step (pc' := 9) (st' := [_, _]) rfl rfl ?_
  refine jx_T.ic_f rfl (fun _ _ _ => rfl) ?_
  refine jx_T.step (pc' := 13) (st' := [_]) rfl rfl ?_
  refine jx_T.step (pc' := 14) (st' := [_, _]) rfl rfl ?_
  refine ha.newo rfl ?_
  refine jx_T.step (pc' := 18) (st' := [_, _, _, _]) rfl rfl ?_
  refine jx_T.step (pc' := 19) (st' := [_, _, _, _, _]) rfl rfl ?_
  refine jx_T.step (pc' := 20) (st' := [_, _, _, _, _, _]) rfl rfl ?_
  refine ha.newI rfl (by decide) (by decide) ?_
  refine jx_T.step (pc' := 23) (st' := [_, _, _, _, _, _, _]) rfl rfl ?_
  refine ha.newI rfl (by decide) (by decide) ?_
  refine jx_T.step (pc' := 26) (st' := [_, _, _, _, _, _, _, _]) rfl rfl ?_
  refine ha.newI rfl (by decide) (by decide) ?_
  show jx_T 69 28 [.ref h.1, .int 2] [.ref (h.1 + 12), .ref (h.1 + 11), .ref (h.1 + 10), .int 0, .ref (h.1 + (.inl (4, 4, .inr (.inr (.inr (.inr (nz2 h.1))))) :: nq2 h.1).length), .ref (h.1 + (([] : List jx_E).length + (8 + 1))), .int 2, .ref (h.1 + ([] : List jx_E).length)] (ha h (ns3 s) ((.inl (4, 4, .inr (.inr (.inr (.inr (nz2 h.1))))) :: nq2 h.1) ++ .inr (4, jx_dfl.getD 4 []) :: [.inl (0, 0, .inl fun _ => 0), .inl (0, 0, .inl fun _ => 0), .inl (0, 0, .inl fun _ => 0)])) v h2
  refine jx_T.spec rfl (by decide) rfl (Nat.le_of_ble_eq_true rfl) rfl (Nat.le_of_ble_eq_true rfl) (ki_30 h _ (.inl (4, 4, .inr (.inr (.inr (.inr (nz2 h.1))))) :: nq2 h.1) _ _ _ _ _) ?_
  show jx_T 69 31 [.ref h.1, .int 2] [.ref (h.1 + (([] : List jx_E).length + (8 + 1))), .int 2, .ref (h.1 + ([] : List jx_E).length)] (ha h (ns3 s) (([] : List jx_E) ++ .inl (4, 4, .inr (.inr (.inr (.inr (nz2 h.1))))) :: nq3 h.1)) v h2
  refine ha.aast rfl rfl (by decide) (by decide) ?_
  refine jx_T.step (pc' := 35) (ls' := [_, _]) (st' := []) rfl rfl ?_
  refine jx_T.step (pc' := 7) (st' := []) rfl rfl ?_
  exact t
theorem ki_69_3 (h h2 : jx_H) (s : Nat) (v : Option Value) (t : jx_T 69 7 [.ref h.1, .int 4] [] (ha h (ns4 s) (([] : List jx_E) ++ .inl (4, 4, .inr (.inr (.inr (.inr (nz4 h.1))))) :: nq4 h.1)) v h2) : jx_T 69 7 [.ref h.1, .int 3] [] (ha h (ns3 s) (([] : List jx_E) ++ .inl (4, 4, .inr (.inr (.inr (.inr (nz3 h.1))))) :: nq3 h.1)) v h2 := by
  refine jx_T.step (pc' := 8) (st' := [_]) rfl rfl ?_
  refine jx_T.step (pc' := 9) (st' := [_, _]) rfl rfl ?_
  refine jx_T.ic_f rfl (fun _ _ _ => rfl) ?_
  refine jx_T.step (pc' := 13) (st' := [_]) rfl rfl ?_
  refine jx_T.step (pc' := 14) (st' := [_, _]) rfl rfl ?_
  refine ha.newo rfl ?_
  refine jx_T.step (pc' := 18) (st' := [_, _, _, _]) rfl rfl ?_
  refine jx_T.step (pc' := 19) (st' := [_, _, _, _, _]) rfl rfl ?_
  refine jx_T.step (pc' := 20) (st' := [_, _, _, _, _, _]) rfl rfl ?_
  refine ha.newI rfl (by decide) (by decide) ?_
  refine jx_T.step (pc' := 23) (st' := [_, _, _, _, _, _, _]) rfl rfl ?_
  refine ha.newI rfl (by decide) (by decide) ?_
  refine jx_T.step (pc' := 26) (st' := [_, _, _, _, _, _, _, _]) rfl rfl ?_
  refine ha.newI rfl (by decide) (by decide) ?_
  show jx_T 69 28 [.ref h.1, .int 3] [.ref (h.1 + 16), .ref (h.1 + 15), .ref (h.1 + 14), .int 0, .ref (h.1 + (.inl (4, 4, .inr (.inr (.inr (.inr (nz3 h.1))))) :: nq3 h.1).length), .ref (h.1 + (([] : List jx_E).length + (12 + 1))), .int 3, .ref (h.1 + ([] : List jx_E).length)] (ha h (ns4 s) ((.inl (4, 4, .inr (.inr (.inr (.inr (nz3 h.1))))) :: nq3 h.1) ++ .inr (4, jx_dfl.getD 4 []) :: [.inl (0, 0, .inl fun _ => 0), .inl (0, 0, .inl fun _ => 0), .inl (0, 0, .inl fun _ => 0)])) v h2
  refine jx_T.spec rfl (by decide) rfl (Nat.le_of_ble_eq_true rfl) rfl (Nat.le_of_ble_eq_true rfl) (ki_30 h _ (.inl (4, 4, .inr (.inr (.inr (.inr (nz3 h.1))))) :: nq3 h.1) _ _ _ _ _) ?_
  show jx_T 69 31 [.ref h.1, .int 3] [.ref (h.1 + (([] : List jx_E).length + (12 + 1))), .int 3, .ref (h.1 + ([] : List jx_E).length)] (ha h (ns4 s) (([] : List jx_E) ++ .inl (4, 4, .inr (.inr (.inr (.inr (nz3 h.1))))) :: nq4 h.1)) v h2
  refine ha.aast rfl rfl (by decide) (by decide) ?_
  refine jx_T.step (pc' := 35) (ls' := [_, _]) (st' := []) rfl rfl ?_
  refine jx_T.step (pc' := 7) (st' := []) rfl rfl ?_
  exact t
theorem ki_69 (h : jx_H) (s : Nat) : jx_T 69 0 (jx_ent 69 []) [] (ha h s []) (some (.ref (h.1 + 17))) (ha h (kz69 s) (kc69 h.1)) := by
  show jx_T 69 0 [.retAddr 0, .retAddr 0] [] _ _ _
  refine jx_T.step (pc' := 1) (st' := [_]) rfl rfl ?_
  refine ha.newA0 rfl (by decide) ?_
  refine jx_T.step (pc' := 5) (ls' := [_, _]) (st' := []) rfl rfl ?_
  refine jx_T.step (pc' := 6) (st' := [_]) rfl rfl ?_
  refine jx_T.step (pc' := 7) (ls' := [_, _]) (st' := []) rfl rfl ?_
  refine ki_69_0 h _ s _ ?_
  refine ki_69_1 h _ s _ ?_
  refine ki_69_2 h _ s _ ?_
  refine ki_69_3 h _ s _ ?_
  refine jx_T.step (pc' := 8) (st' := [_]) rfl rfl ?_
  refine jx_T.step (pc' := 9) (st' := [_, _]) rfl rfl ?_
  refine jx_T.ic_t rfl (fun _ _ _ => rfl) ?_
  refine ha.newo rfl ?_
  refine jx_T.step (pc' := 42) (st' := [_, _]) rfl rfl ?_
  refine jx_T.step (pc' := 44) (st' := [_, _, _]) rfl rfl ?_
  refine jx_T.step (pc' := 45) (st' := [_, _, _, _]) rfl rfl ?_
  refine jx_T.step (pc' := 47) (st' := [_, _, _, _, _]) rfl rfl ?_
  refine ha.newA rfl (by decide) ?_
  refine jx_T.step (pc' := 52) (st' := [_, _, _, _, _, _]) rfl rfl ?_
  refine ha.newA rfl (by decide) ?_
  refine jx_T.step (pc' := 56) (st' := [_, _, _, _, _, _, _]) rfl rfl ?_
  refine jx_T.step (pc' := 58) (st' := [_, _, _, _, _, _, _, _]) rfl rfl ?_
  refine ha.newI rfl (by decide) (by decide) ?_
  show jx_T 69 60 [.ref h.1, .int 4] [.ref (h.1 + 20), .ref h.1, .ref (h.1 + 19), .ref (h.1 + 18), .int 0, .int 10, .ref (h.1 + (.inl (4, 4, .inr (.inr (.inr (.inr (nz4 h.1))))) :: nq4 h.1).length), .ref (h.1 + 17)] (ha h (kz69 s) ((.inl (4, 4, .inr (.inr (.inr (.inr (nz4 h.1))))) :: nq4 h.1) ++ .inr (9, jx_dfl.getD 9 []) :: [.inl (7, 12, .inr (.inr (.inr (.inr fun _ => none)))), .inl (5, 8, .inr (.inr (.inr (.inr fun _ => none)))), .inl (0, 12, .inl fun _ => 0)])) _ _
  refine jx_T.spec rfl (by decide) rfl (Nat.le_of_ble_eq_true rfl) rfl (Nat.le_of_ble_eq_true rfl) (ki_70 h _ (.inl (4, 4, .inr (.inr (.inr (.inr (nz4 h.1))))) :: nq4 h.1) _ _ _ _ _ _ _) ?_
  exact jx_T.ret rfl rfl
