/-! the two objects' beginning: a heap with cells put on -/
def ha (h : jx_H) (s : Nat) (l : List jx_E) : jx_H := (h.1 + l.length, h.2.1 + s, fun a => if h.1 ≤ a ∧ a < h.1 + l.length then l[a - h.1]? else h.2.2 a)
theorem ha_new (h : jx_H) (s : Nat) (l : List jx_E) (z : Nat) (e : jx_E) : jx_new (ha h s l) z e = ha h (s + z) (l ++ [e]) := by
  have hl : (l ++ [e]).length = l.length + 1 := by rw [List.length_append]; rfl
  unfold jx_new ha
  rw [hl]
  refine Prod.ext (by show h.1 + l.length + 1 = h.1 + (l.length + 1); omega) (Prod.ext (by show h.2.1 + s + z = h.2.1 + (s + z); omega) (funext fun a => ?_))
  show (if a = h.1 + l.length then some e else if h.1 ≤ a ∧ a < h.1 + l.length then l[a - h.1]? else h.2.2 a) = if h.1 ≤ a ∧ a < h.1 + (l.length + 1) then (l ++ [e])[a - h.1]? else h.2.2 a
  by_cases y : a = h.1 + l.length
  · rw [if_pos y, if_pos (by omega), show a - h.1 = l.length by omega, List.getElem?_append_right (Nat.le_refl _), Nat.sub_self]
    rfl
  · rw [if_neg y]
    by_cases z : h.1 ≤ a ∧ a < h.1 + l.length
    · rw [if_pos z, if_pos (by omega), List.getElem?_append_left (by omega)]
    · rw [if_neg z, if_neg (by omega)]
theorem ha_get (h : jx_H) (s : Nat) (p q : List jx_E) (o : jx_E) : (ha h s (p ++ o :: q)).2.2 (h.1 + p.length) = some o := by
  show (if h.1 ≤ h.1 + p.length ∧ h.1 + p.length < h.1 + (p ++ o :: q).length then (p ++ o :: q)[h.1 + p.length - h.1]? else _) = _
  have hl : (p ++ o :: q).length = p.length + (q.length + 1) := by rw [List.length_append]; rfl
  rw [hl, if_pos (by omega), show h.1 + p.length - h.1 = p.length by omega, List.getElem?_append_right (Nat.le_refl _), Nat.sub_self]
  rfl
theorem ha_set (h : jx_H) (s : Nat) (p q : List jx_E) (o e : jx_E) : jx_set (ha h s (p ++ o :: q)) (h.1 + p.length) e = ha h s (p ++ e :: q) := by
  have hl : (p ++ o :: q).length = p.length + (q.length + 1) := by rw [List.length_append]; rfl
  have hl2 : (p ++ e :: q).length = p.length + (q.length + 1) := by rw [List.length_append]; rfl
  unfold jx_set ha
  rw [hl, hl2]
  refine Prod.ext rfl (Prod.ext rfl (funext fun a => ?_))
  show (if a = h.1 + p.length then some e else if h.1 ≤ a ∧ a < h.1 + (p.length + (q.length + 1)) then (p ++ o :: q)[a - h.1]? else h.2.2 a) = if h.1 ≤ a ∧ a < h.1 + (p.length + (q.length + 1)) then (p ++ e :: q)[a - h.1]? else h.2.2 a
  by_cases y : a = h.1 + p.length
  · rw [if_pos y, if_pos (by omega), show a - h.1 = p.length by omega, List.getElem?_append_right (Nat.le_refl _), Nat.sub_self]
    rfl
  · rw [if_neg y]
    by_cases z : h.1 ≤ a ∧ a < h.1 + (p.length + (q.length + 1))
    · rw [if_pos z, if_pos z]
      by_cases x : a - h.1 < p.length
      · rw [List.getElem?_append_left x, List.getElem?_append_left x]
      · rw [List.getElem?_append_right (by omega), List.getElem?_append_right (by omega)]
        obtain ⟨j, hj⟩ : ∃ j, a - h.1 - p.length = j + 1 := ⟨a - h.1 - p.length - 1, by omega⟩
        rw [hj]
        rfl
    · rw [if_neg z, if_neg z]
theorem ha_app (p q : List jx_E) (o e : jx_E) : (p ++ o :: q) ++ [e] = p ++ o :: (q ++ [e]) := by
  rw [List.append_assoc]
  rfl
theorem ha_app2 (p q c : List jx_E) (o : jx_E) : (p ++ o :: q) ++ c = p ++ o :: (q ++ c) := by
  rw [List.append_assoc]
  rfl
theorem ha_len (p q : List jx_E) (o : jx_E) : (p ++ o :: q).length = p.length + (q.length + 1) := by rw [List.length_append]; rfl
section
variable {m pc : Nat} {ls st : List Value} {h h2 : jx_H} {s : Nat} {p q : List jx_E} {o : jx_E} {v : Option Value}
theorem ha.put {n x y : Nat} {vv w : Value} {fs : List Value} (hr : jx_rc m pc = some (.putfield n, 3, x, y, vv)) (hl : Nat.ble (y + 1) fs.length = true) (hf : jx_fit ((jx_fty.getD x []).getD y .int) w = true) (k : jx_T m (pc + 3) ls st (ha h s (p ++ .inr (x, fs.set y w) :: q)) v h2) : jx_T m pc ls (w :: .ref (h.1 + p.length) :: st) (ha h s (p ++ .inr (x, fs) :: q)) v h2 := by
  refine jx_T.putf hr (ha_get h s p q _) (Nat.le_of_ble_eq_true hl) hf ?_
  rw [ha_set]
  exact k
theorem ha.newI {t : ClassFile.ArrayType} {len x y : Nat} {vv : Value} {k : Int32} (hr : jx_rc m pc = some (.newarray t, len, x, y, vv)) (hx : x = 0 ∨ x = 2 ∨ x = 3) (hk : ¬ (k < 0) ∧ k.toNatClampNeg ≤ 1000000) (kk : jx_T m (pc + 2) ls (.ref (h.1 + (p.length + (q.length + 1))) :: st) (ha h (s + k.toNatClampNeg) (p ++ o :: (q ++ [.inl (x, k.toNatClampNeg, .inl fun _ => 0)]))) v h2) : jx_T m pc ls (.int k :: st) (ha h s (p ++ o :: q)) v h2 := by
  refine jx_T.step hr (h1 := jx_new (ha h s (p ++ o :: q)) k.toNatClampNeg (.inl (x, k.toNatClampNeg, .inl fun _ => 0))) (pc' := pc + 2) (ls' := ls) (st' := .ref (ha h s (p ++ o :: q)).1 :: st) ?_ ?_
  · rcases hx with rfl | rfl | rfl <;> simp [jx_act, hk, jx_go]
  · rw [ha_new, ha_app]
    show jx_T m (pc + 2) ls (.ref (h.1 + (p ++ o :: q).length) :: st) _ v h2
    rw [ha_len]
    exact kk
theorem ha.newL {t : ClassFile.ArrayType} {len y : Nat} {vv : Value} {k : Int32} (hr : jx_rc m pc = some (.newarray t, len, 1, y, vv)) (hk : ¬ (k < 0) ∧ k.toNatClampNeg ≤ 1000000) (kk : jx_T m (pc + 2) ls (.ref (h.1 + (p.length + (q.length + 1))) :: st) (ha h (s + k.toNatClampNeg) (p ++ o :: (q ++ [.inl (1, k.toNatClampNeg, .inr (.inl fun _ => 0))]))) v h2) : jx_T m pc ls (.int k :: st) (ha h s (p ++ o :: q)) v h2 := by
  refine jx_T.step hr (h1 := jx_new (ha h s (p ++ o :: q)) k.toNatClampNeg (.inl (1, k.toNatClampNeg, .inr (.inl fun _ => 0)))) (pc' := pc + 2) (ls' := ls) (st' := .ref (ha h s (p ++ o :: q)).1 :: st) ?_ ?_
  · simp [jx_act, hk, jx_go]
  · rw [ha_new, ha_app]
    show jx_T m (pc + 2) ls (.ref (h.1 + (p ++ o :: q).length) :: st) _ v h2
    rw [ha_len]
    exact kk
theorem ha.newA {n len x y : Nat} {vv : Value} {k : Int32} (hr : jx_rc m pc = some (.anewarray n, len, x, y, vv)) (hk : ¬ (k < 0) ∧ k.toNatClampNeg ≤ 1000000) (kk : jx_T m (pc + 3) ls (.ref (h.1 + (p.length + (q.length + 1))) :: st) (ha h (s + k.toNatClampNeg) (p ++ o :: (q ++ [.inl (x, k.toNatClampNeg, .inr (.inr (.inr (.inr fun _ => none))))]))) v h2) : jx_T m pc ls (.int k :: st) (ha h s (p ++ o :: q)) v h2 := by
  refine jx_T.step hr (h1 := jx_new (ha h s (p ++ o :: q)) k.toNatClampNeg (.inl (x, k.toNatClampNeg, .inr (.inr (.inr (.inr fun _ => none)))))) (pc' := pc + 3) (ls' := ls) (st' := .ref (ha h s (p ++ o :: q)).1 :: st) ?_ ?_
  · simp [jx_act, hk, jx_go]
  · rw [ha_new, ha_app]
    show jx_T m (pc + 3) ls (.ref (h.1 + (p ++ o :: q).length) :: st) _ v h2
    rw [ha_len]
    exact kk
theorem ha.newo {n len x y : Nat} {vv : Value} (hr : jx_rc m pc = some (.new n, len, x, y, vv)) (kk : jx_T m (pc + 3) ls (.ref (h.1 + (p.length + (q.length + 1))) :: st) (ha h (s + (jx_dfl.getD x []).length) (p ++ o :: (q ++ [.inr (x, jx_dfl.getD x [])]))) v h2) : jx_T m pc ls st (ha h s (p ++ o :: q)) v h2 := by
  refine jx_T.step hr (h1 := jx_new (ha h s (p ++ o :: q)) (jx_dfl.getD x []).length (.inr (x, jx_dfl.getD x []))) (pc' := pc + 3) (ls' := ls) (st' := .ref (ha h s (p ++ o :: q)).1 :: st) ?_ ?_
  · simp only [jx_act, jx_go]
  · rw [ha_new, ha_app]
    show jx_T m (pc + 3) ls (.ref (h.1 + (p ++ o :: q).length) :: st) _ v h2
    rw [ha_len]
    exact kk
theorem ha.init {n len x y : Nat} {z : Nat → Nat} {k0 : Int32} {e : jx_E} {c : Nat → List jx_E} (hr : jx_rc m pc = some (.invokespecial n, len, x, y, .int k0)) (hx : ¬ x = 4) (hk : k0 = 0) (hc : jx_cat st ≤ 8) (hl : (jx_args [.ref 0]).length ≤ (jx_mi y).2.2.1) (hM : ∀ p : List jx_E, jx_T y 0 (jx_ent y [.ref (h.1 + p.length)]) [] (ha h s (p ++ [e])) none (ha h (z s) (p ++ c (h.1 + p.length)))) (k : jx_T m (pc + 3) ls st (ha h (z s) (p ++ o :: (q ++ c (h.1 + (p.length + (q.length + 1)))))) v h2) : jx_T m pc ls (.ref (h.1 + (p.length + (q.length + 1))) :: st) (ha h s (p ++ o :: (q ++ [e]))) v h2 := by
  have t := hM (p ++ o :: q)
  rw [ha_app, ha_app2, ha_len] at t
  subst hk
  exact jx_T.spec hr hx rfl hc rfl hl t k
theorem ha.last {x y n : Nat} {vv : Value} {f : Nat → Int64} {i : Int32} {w : Int64} (hr : jx_rc m pc = some (.lastore, 1, x, y, vv)) (hi : ¬ (i < 0) ∧ i.toNatClampNeg < n) (k : jx_T m (pc + 1) ls st (ha h s (p ++ o :: (q ++ [.inl (1, n, .inr (.inl (vp_updL f i.toNatClampNeg w)))]))) v h2) : jx_T m pc ls (.long w :: .int i :: .ref (h.1 + (p.length + (q.length + 1))) :: st) (ha h s (p ++ o :: (q ++ [.inl (1, n, .inr (.inl f))]))) v h2 := by
  rw [← ha_app] at k ⊢
  rw [← ha_len]
  refine jx_T.last hr (ha_get h s (p ++ o :: q) [] _) hi ?_
  rw [ha_set]
  exact k
end

def kc24 (b : Nat) : List jx_E := [.inr (3, [.ref (b + 1), .int 0]), .inl (0, 110, .inl fun _ => 0)]
def kz24 (s : Nat) : Nat := s + 110
theorem ki_24 (h : jx_H) (s : Nat) (p : List jx_E) : jx_T 24 0 (jx_ent 24 [.ref (h.1 + p.length)]) [] (ha h s (p ++ [.inr (3, jx_dfl.getD 3 [])])) none (ha h (kz24 s) (p ++ kc24 (h.1 + p.length))) := by
  show jx_T 24 0 [.ref (h.1 + p.length)] [] _ _ _
  refine jx_T.step (pc' := 1) (st' := [_]) rfl rfl ?_
  refine jx_T.step (pc' := 4) (st' := []) rfl rfl ?_
  refine jx_T.step (pc' := 5) (st' := [_]) rfl rfl ?_
  refine jx_T.step (pc' := 7) (st' := [_, _]) rfl rfl ?_
  refine ha.newI rfl (by decide) (by decide) ?_
  refine ha.put rfl rfl rfl ?_
  refine jx_T.step (pc' := 13) (st' := [_]) rfl rfl ?_
  refine jx_T.step (pc' := 14) (st' := [_, _]) rfl rfl ?_
  refine ha.put rfl rfl rfl ?_
  exact jx_T.ret rfl rfl
def kc0 (b : Nat) : List jx_E := [.inr (0, [.ref (b + 1), .ref (b + 3), .ref (b + 4), .ref (b + 5), .ref (b + 6), .long 0])] ++ kc24 (b + 1) ++ [.inl (1, 110, .inr (.inl fun _ => 0)), .inl (1, 110, .inr (.inl fun _ => 0)), .inl (1, 110, .inr (.inl fun _ => 0)), .inl (1, 110, .inr (.inl fun _ => 0))]
def kz0 (s : Nat) : Nat := kz24 (s + 2) + 110 + 110 + 110 + 110
theorem ki_0 (h : jx_H) (s : Nat) (p : List jx_E) : jx_T 0 0 (jx_ent 0 [.ref (h.1 + p.length)]) [] (ha h s (p ++ [.inr (0, jx_dfl.getD 0 [])])) none (ha h (kz0 s) (p ++ kc0 (h.1 + p.length))) := by
  show jx_T 0 0 [.ref (h.1 + p.length)] [] _ _ _
  refine jx_T.step (pc' := 1) (st' := [_]) rfl rfl ?_
  refine jx_T.step (pc' := 4) (st' := []) rfl rfl ?_
  refine jx_T.step (pc' := 5) (st' := [_]) rfl rfl ?_
  refine ha.newo rfl ?_
  refine jx_T.step (pc' := 9) (st' := [_, _, _]) rfl rfl ?_
  refine ha.init rfl (by decide) rfl (Nat.le_of_ble_eq_true rfl) (Nat.le_of_ble_eq_true rfl) (z := kz24) (fun p => ki_24 h _ p) ?_
  refine ha.put rfl rfl rfl ?_
  refine jx_T.step (pc' := 16) (st' := [_]) rfl rfl ?_
  refine jx_T.step (pc' := 18) (st' := [_, _]) rfl rfl ?_
  refine ha.newL rfl (by decide) ?_
  refine ha.put rfl rfl rfl ?_
  refine jx_T.step (pc' := 24) (st' := [_]) rfl rfl ?_
  refine jx_T.step (pc' := 26) (st' := [_, _]) rfl rfl ?_
  refine ha.newL rfl (by decide) ?_
  refine ha.put rfl rfl rfl ?_
  refine jx_T.step (pc' := 32) (st' := [_]) rfl rfl ?_
  refine jx_T.step (pc' := 34) (st' := [_, _]) rfl rfl ?_
  refine ha.newL rfl (by decide) ?_
  refine ha.put rfl rfl rfl ?_
  refine jx_T.step (pc' := 40) (st' := [_]) rfl rfl ?_
  refine jx_T.step (pc' := 42) (st' := [_, _]) rfl rfl ?_
  refine ha.newL rfl (by decide) ?_
  refine ha.put rfl rfl rfl ?_
  refine jx_T.step (pc' := 48) (st' := [_]) rfl rfl ?_
  refine jx_T.step (pc' := 49) (st' := [_, _]) rfl rfl ?_
  refine ha.put rfl rfl rfl ?_
  exact jx_T.ret rfl rfl
def kc49 (b : Nat) : List jx_E := [.inr (6, [.null, .int 0, .int 0, .int 0, .long 0])]
def kz49 (s : Nat) : Nat := s
theorem ki_49 (h : jx_H) (s : Nat) (p : List jx_E) : jx_T 49 0 (jx_ent 49 [.ref (h.1 + p.length)]) [] (ha h s (p ++ [.inr (6, jx_dfl.getD 6 [])])) none (ha h (kz49 s) (p ++ kc49 (h.1 + p.length))) := by
  show jx_T 49 0 [.ref (h.1 + p.length)] [] _ _ _
  refine jx_T.step (pc' := 1) (st' := [_]) rfl rfl ?_
  refine jx_T.step (pc' := 4) (st' := []) rfl rfl ?_
  refine jx_T.step (pc' := 5) (st' := [_]) rfl rfl ?_
  refine jx_T.step (pc' := 6) (st' := [_, _]) rfl rfl ?_
  refine ha.put rfl rfl rfl ?_
  refine jx_T.step (pc' := 10) (st' := [_]) rfl rfl ?_
  refine jx_T.step (pc' := 11) (st' := [_, _]) rfl rfl ?_
  refine ha.put rfl rfl rfl ?_
  refine jx_T.step (pc' := 15) (st' := [_]) rfl rfl ?_
  refine jx_T.step (pc' := 16) (st' := [_, _]) rfl rfl ?_
  refine ha.put rfl rfl rfl ?_
  refine jx_T.step (pc' := 20) (st' := [_]) rfl rfl ?_
  refine jx_T.step (pc' := 21) (st' := [_, _]) rfl rfl ?_
  refine ha.put rfl rfl rfl ?_
  refine jx_T.step (pc' := 25) (st' := [_]) rfl rfl ?_
  refine jx_T.step (pc' := 26) (st' := [_, _]) rfl rfl ?_
  refine ha.put rfl rfl rfl ?_
  exact jx_T.ret rfl rfl
def kc18 (b : Nat) : List jx_E := [.inr (2, [.ref (b + 1), .ref (b + 2), .ref (b + 3), .ref (b + 4), .int 0, .int (-1), .long 0, .long 0]), .inl (1, 12, .inr (.inl fun _ => 0)), .inl (0, 20, .inl fun _ => 0)] ++ kc49 (b + 3) ++ kc49 (b + 4)
def kz18 (s : Nat) : Nat := kz49 (kz49 (s + 12 + 20 + 5) + 5)
theorem ki_18 (h : jx_H) (s : Nat) (p : List jx_E) : jx_T 18 0 (jx_ent 18 [.ref (h.1 + p.length)]) [] (ha h s (p ++ [.inr (2, jx_dfl.getD 2 [])])) none (ha h (kz18 s) (p ++ kc18 (h.1 + p.length))) := by
  show jx_T 18 0 [.ref (h.1 + p.length)] [] _ _ _
  refine jx_T.step (pc' := 1) (st' := [_]) rfl rfl ?_
  refine jx_T.step (pc' := 4) (st' := []) rfl rfl ?_
  refine jx_T.step (pc' := 5) (st' := [_]) rfl rfl ?_
  refine jx_T.step (pc' := 7) (st' := [_, _]) rfl rfl ?_
  refine ha.newL rfl (by decide) ?_
  refine ha.put rfl rfl rfl ?_
  refine jx_T.step (pc' := 13) (st' := [_]) rfl rfl ?_
  refine jx_T.step (pc' := 15) (st' := [_, _]) rfl rfl ?_
  refine ha.newI rfl (by decide) (by decide) ?_
  refine ha.put rfl rfl rfl ?_
  refine jx_T.step (pc' := 21) (st' := [_]) rfl rfl ?_
  refine ha.newo rfl ?_
  refine jx_T.step (pc' := 25) (st' := [_, _, _]) rfl rfl ?_
  refine ha.init rfl (by decide) rfl (Nat.le_of_ble_eq_true rfl) (Nat.le_of_ble_eq_true rfl) (z := kz49) (fun p => ki_49 h _ p) ?_
  refine ha.put rfl rfl rfl ?_
  refine jx_T.step (pc' := 32) (st' := [_]) rfl rfl ?_
  refine ha.newo rfl ?_
  refine jx_T.step (pc' := 36) (st' := [_, _, _]) rfl rfl ?_
  refine ha.init rfl (by decide) rfl (Nat.le_of_ble_eq_true rfl) (Nat.le_of_ble_eq_true rfl) (z := kz49) (fun p => ki_49 h _ p) ?_
  refine ha.put rfl rfl rfl ?_
  refine jx_T.step (pc' := 43) (st' := [_]) rfl rfl ?_
  refine jx_T.step (pc' := 44) (st' := [_, _]) rfl rfl ?_
  refine ha.put rfl rfl rfl ?_
  refine jx_T.step (pc' := 48) (st' := [_]) rfl rfl ?_
  refine jx_T.step (pc' := 49) (st' := [_, _]) rfl rfl ?_
  refine ha.put rfl rfl rfl ?_
  refine jx_T.step (pc' := 53) (st' := [_]) rfl rfl ?_
  refine jx_T.step (pc' := 54) (st' := [_, _]) rfl rfl ?_
  refine ha.put rfl rfl rfl ?_
  refine jx_T.step (pc' := 58) (st' := [_]) rfl rfl ?_
  refine jx_T.step (pc' := 59) (st' := [_, _]) rfl rfl ?_
  refine ha.put rfl rfl rfl ?_
  exact jx_T.ret rfl rfl
def kc13 (b : Nat) : List jx_E := [.inr (1, [.ref (b + 1), .ref (b + 2), .ref (b + 3), .int 0]), .inl (1, 14, .inr (.inl fun _ => 0)), .inl (1, 8192, .inr (.inl fun _ => 0)), .inl (2, 8192, .inl fun _ => 0)]
def kz13 (s : Nat) : Nat := s + 14 + 8192 + 8192
theorem ki_13 (h : jx_H) (s : Nat) (p : List jx_E) : jx_T 13 0 (jx_ent 13 [.ref (h.1 + p.length)]) [] (ha h s (p ++ [.inr (1, jx_dfl.getD 1 [])])) none (ha h (kz13 s) (p ++ kc13 (h.1 + p.length))) := by
  show jx_T 13 0 [.ref (h.1 + p.length)] [] _ _ _
  refine jx_T.step (pc' := 1) (st' := [_]) rfl rfl ?_
  refine jx_T.step (pc' := 4) (st' := []) rfl rfl ?_
  refine jx_T.step (pc' := 5) (st' := [_]) rfl rfl ?_
  refine jx_T.step (pc' := 7) (st' := [_, _]) rfl rfl ?_
  refine ha.newL rfl (by decide) ?_
  refine ha.put rfl rfl rfl ?_
  refine jx_T.step (pc' := 13) (st' := [_]) rfl rfl ?_
  refine jx_T.step (pc' := 16) (st' := [_, _]) rfl rfl ?_
  refine ha.newL rfl (by decide) ?_
  refine ha.put rfl rfl rfl ?_
  refine jx_T.step (pc' := 22) (st' := [_]) rfl rfl ?_
  refine jx_T.step (pc' := 25) (st' := [_, _]) rfl rfl ?_
  refine ha.newI rfl (by decide) (by decide) ?_
  refine ha.put rfl rfl rfl ?_
  refine jx_T.step (pc' := 31) (st' := [_]) rfl rfl ?_
  refine jx_T.step (pc' := 32) (st' := [_, _]) rfl rfl ?_
  refine ha.put rfl rfl rfl ?_
  exact jx_T.ret rfl rfl
def kc33 (b : Nat) : List jx_E := [.inr (5, [.ref (b + 1), .ref (b + 2), .ref (b + 3), .ref (b + 4), .ref (b + 5), .ref (b + 6), .ref (b + 7), .ref (b + 8), .ref (b + 9), .ref (b + 10), .int 0, .int 0, .int 0, .int 0]), .inl (0, 1324, .inl fun _ => 0), .inl (0, 11886, .inl fun _ => 0), .inl (0, 11886, .inl fun _ => 0), .inl (0, 11886, .inl fun _ => 0), .inl (0, 11886, .inl fun _ => 0), .inl (0, 1324, .inl fun _ => 0), .inl (0, 1324, .inl fun _ => 0), .inl (3, 1324, .inl fun _ => 0), .inl (0, 1324, .inl fun _ => 0), .inl (0, 1324, .inl fun _ => 0)]
def kz33 (s : Nat) : Nat := s + 1324 + 11886 + 11886 + 11886 + 11886 + 1324 + 1324 + 1324 + 1324 + 1324
theorem ki_33 (h : jx_H) (s : Nat) (p : List jx_E) : jx_T 33 0 (jx_ent 33 [.ref (h.1 + p.length)]) [] (ha h s (p ++ [.inr (5, jx_dfl.getD 5 [])])) none (ha h (kz33 s) (p ++ kc33 (h.1 + p.length))) := by
  show jx_T 33 0 [.ref (h.1 + p.length)] [] _ _ _
  refine jx_T.step (pc' := 1) (st' := [_]) rfl rfl ?_
  refine jx_T.step (pc' := 4) (st' := []) rfl rfl ?_
  refine jx_T.step (pc' := 5) (st' := [_]) rfl rfl ?_
  refine jx_T.step (pc' := 8) (st' := [_, _]) rfl rfl ?_
  refine ha.newI rfl (by decide) (by decide) ?_
  refine ha.put rfl rfl rfl ?_
  refine jx_T.step (pc' := 14) (st' := [_]) rfl rfl ?_
  refine jx_T.step (pc' := 17) (st' := [_, _]) rfl rfl ?_
  refine ha.newI rfl (by decide) (by decide) ?_
  refine ha.put rfl rfl rfl ?_
  refine jx_T.step (pc' := 23) (st' := [_]) rfl rfl ?_
  refine jx_T.step (pc' := 26) (st' := [_, _]) rfl rfl ?_
  refine ha.newI rfl (by decide) (by decide) ?_
  refine ha.put rfl rfl rfl ?_
  refine jx_T.step (pc' := 32) (st' := [_]) rfl rfl ?_
  refine jx_T.step (pc' := 35) (st' := [_, _]) rfl rfl ?_
  refine ha.newI rfl (by decide) (by decide) ?_
  refine ha.put rfl rfl rfl ?_
  refine jx_T.step (pc' := 41) (st' := [_]) rfl rfl ?_
  refine jx_T.step (pc' := 44) (st' := [_, _]) rfl rfl ?_
  refine ha.newI rfl (by decide) (by decide) ?_
  refine ha.put rfl rfl rfl ?_
  refine jx_T.step (pc' := 50) (st' := [_]) rfl rfl ?_
  refine jx_T.step (pc' := 53) (st' := [_, _]) rfl rfl ?_
  refine ha.newI rfl (by decide) (by decide) ?_
  refine ha.put rfl rfl rfl ?_
  refine jx_T.step (pc' := 59) (st' := [_]) rfl rfl ?_
  refine jx_T.step (pc' := 62) (st' := [_, _]) rfl rfl ?_
  refine ha.newI rfl (by decide) (by decide) ?_
  refine ha.put rfl rfl rfl ?_
  refine jx_T.step (pc' := 68) (st' := [_]) rfl rfl ?_
  refine jx_T.step (pc' := 71) (st' := [_, _]) rfl rfl ?_
  refine ha.newI rfl (by decide) (by decide) ?_
  refine ha.put rfl rfl rfl ?_
  refine jx_T.step (pc' := 77) (st' := [_]) rfl rfl ?_
  refine jx_T.step (pc' := 80) (st' := [_, _]) rfl rfl ?_
  refine ha.newI rfl (by decide) (by decide) ?_
  refine ha.put rfl rfl rfl ?_
  refine jx_T.step (pc' := 86) (st' := [_]) rfl rfl ?_
  refine jx_T.step (pc' := 89) (st' := [_, _]) rfl rfl ?_
  refine ha.newI rfl (by decide) (by decide) ?_
  refine ha.put rfl rfl rfl ?_
  refine jx_T.step (pc' := 95) (st' := [_]) rfl rfl ?_
  refine jx_T.step (pc' := 96) (st' := [_, _]) rfl rfl ?_
  refine ha.put rfl rfl rfl ?_
  refine jx_T.step (pc' := 100) (st' := [_]) rfl rfl ?_
  refine jx_T.step (pc' := 101) (st' := [_, _]) rfl rfl ?_
  refine ha.put rfl rfl rfl ?_
  refine jx_T.step (pc' := 105) (st' := [_]) rfl rfl ?_
  refine jx_T.step (pc' := 106) (st' := [_, _]) rfl rfl ?_
  refine ha.put rfl rfl rfl ?_
  refine jx_T.step (pc' := 110) (st' := [_]) rfl rfl ?_
  refine jx_T.step (pc' := 111) (st' := [_, _]) rfl rfl ?_
  refine ha.put rfl rfl rfl ?_
  exact jx_T.ret rfl rfl
def kc56 (b : Nat) : List jx_E := [.inr (7, [.ref (b + 1), .ref (b + 3), .ref (b + 14), .int 0, .int 0])] ++ kc24 (b + 1) ++ kc33 (b + 3) ++ [.inl (0, 12, .inl fun _ => 0)]
def kz56 (s : Nat) : Nat := kz33 (kz24 (s + 2) + 14) + 12
theorem ki_56 (h : jx_H) (s : Nat) (p : List jx_E) : jx_T 56 0 (jx_ent 56 [.ref (h.1 + p.length)]) [] (ha h s (p ++ [.inr (7, jx_dfl.getD 7 [])])) none (ha h (kz56 s) (p ++ kc56 (h.1 + p.length))) := by
  show jx_T 56 0 [.ref (h.1 + p.length)] [] _ _ _
  refine jx_T.step (pc' := 1) (st' := [_]) rfl rfl ?_
  refine jx_T.step (pc' := 4) (st' := []) rfl rfl ?_
  refine jx_T.step (pc' := 5) (st' := [_]) rfl rfl ?_
  refine ha.newo rfl ?_
  refine jx_T.step (pc' := 9) (st' := [_, _, _]) rfl rfl ?_
  refine ha.init rfl (by decide) rfl (Nat.le_of_ble_eq_true rfl) (Nat.le_of_ble_eq_true rfl) (z := kz24) (fun p => ki_24 h _ p) ?_
  refine ha.put rfl rfl rfl ?_
  refine jx_T.step (pc' := 16) (st' := [_]) rfl rfl ?_
  refine ha.newo rfl ?_
  refine jx_T.step (pc' := 20) (st' := [_, _, _]) rfl rfl ?_
  refine ha.init rfl (by decide) rfl (Nat.le_of_ble_eq_true rfl) (Nat.le_of_ble_eq_true rfl) (z := kz33) (fun p => ki_33 h _ p) ?_
  refine ha.put rfl rfl rfl ?_
  refine jx_T.step (pc' := 27) (st' := [_]) rfl rfl ?_
  refine jx_T.step (pc' := 29) (st' := [_, _]) rfl rfl ?_
  refine ha.newI rfl (by decide) (by decide) ?_
  refine ha.put rfl rfl rfl ?_
  refine jx_T.step (pc' := 35) (st' := [_]) rfl rfl ?_
  refine jx_T.step (pc' := 36) (st' := [_, _]) rfl rfl ?_
  refine ha.put rfl rfl rfl ?_
  refine jx_T.step (pc' := 40) (st' := [_]) rfl rfl ?_
  refine jx_T.step (pc' := 41) (st' := [_, _]) rfl rfl ?_
  refine ha.put rfl rfl rfl ?_
  exact jx_T.ret rfl rfl
