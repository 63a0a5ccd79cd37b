/-! RULES of the interpreter's runs: 'jx_T m pc ls st h v h2': method m, at pc with these locals and this stack over heap h, comes to the answer v and the heap h2 -/
def jx_T (m pc : Nat) (ls st : List Value) (h : jx_H) (v : Option Value) (h2 : jx_H) : Prop := ∃ n, jx_run n m pc ls st h = some (v, h2)
theorem jx_run_eq (n m pc : Nat) (ls st : List Value) (h : jx_H) : jx_run (n + 1) m pc ls st h = (match jx_rc m pc with
    | none => none
    | some r => match jx_act pc r ls st h with
      | none => none
      | some (.inl (pc', ls', st', h')) => jx_run n m pc' ls' st' h'
      | some (.inr (.inl v)) => some (v, h)
      | some (.inr (.inr (cal, vs, rest))) => if (jx_args vs).length ≤ (jx_mi cal).2.2.1 then (match jx_run n cal 0 (jx_ent cal vs) [] h with
        | some (v, h') => jx_run n m (pc + 3) ls (v.toList ++ rest) h'
        | none => none) else none) := rfl
theorem jx_run_suc : ∀ (n m pc : Nat) (ls st : List Value) (h : jx_H) (r : Option Value × jx_H), jx_run n m pc ls st h = some r → jx_run (n + 1) m pc ls st h = some r := by
  intro n
  induction n with
  | zero => intro m pc ls st h r hr; simp [jx_run] at hr
  | succ n ih =>
    intro m pc ls st h r hr
    rw [jx_run_eq] at hr
    rw [jx_run_eq (n + 1)]
    cases hrow : jx_rc m pc with
    | none => rw [hrow] at hr; cases hr
    | some row =>
      rw [hrow] at hr
      dsimp only at hr ⊢
      cases ha : jx_act pc row ls st h with
      | none => rw [ha] at hr; cases hr
      | some q =>
        rw [ha] at hr
        rcases q with ⟨pc1, ls1, st1, h1⟩ | v1 | ⟨cal, vs, rest⟩
        · exact ih _ _ _ _ _ _ hr
        · exact hr
        · dsimp only at hr ⊢
          by_cases hlen : (jx_args vs).length ≤ (jx_mi cal).2.2.1
          · rw [if_pos hlen] at hr ⊢
            cases hc : jx_run n cal 0 (jx_ent cal vs) [] h with
            | none => rw [hc] at hr; cases hr
            | some w =>
              rw [hc] at hr
              rw [ih _ _ _ _ _ _ hc]
              exact ih _ _ _ _ _ _ hr
          · rw [if_neg hlen] at hr; cases hr
theorem jx_run_le {n n2 m pc : Nat} {ls st : List Value} {h : jx_H} {r : Option Value × jx_H} (hr : jx_run n m pc ls st h = some r) (hn : n ≤ n2) : jx_run n2 m pc ls st h = some r := by
  obtain ⟨d, rfl⟩ := Nat.exists_eq_add_of_le hn
  induction d with
  | zero => exact hr
  | succ d ih => exact jx_run_suc _ _ _ _ _ _ _ (ih (by omega))
section JXR
variable {m pc : Nat} {ls st : List Value} {h : jx_H} {v : Option Value} {h2 : jx_H}
theorem jx_T.step {row : jx_Row} {pc' : Nat} {ls' st' : List Value} {h1 : jx_H} (hr : jx_rc m pc = some row) (ha : jx_act pc row ls st h = some (.inl (pc', ls', st', h1))) (k : jx_T m pc' ls' st' h1 v h2) : jx_T m pc ls st h v h2 := by
  obtain ⟨n, hn⟩ := k
  refine ⟨n + 1, ?_⟩
  rw [jx_run]
  simp only [hr, ha]
  exact hn
theorem jx_T.ret {row : jx_Row} (hr : jx_rc m pc = some row) (ha : jx_act pc row ls st h = some (.inr (.inl v))) : jx_T m pc ls st h v h := by
  refine ⟨1, ?_⟩
  rw [jx_run]
  simp only [hr, ha]
theorem jx_T.call {row : jx_Row} {cal : Nat} {vs rest : List Value} {r : Option Value} {h1 : jx_H} (hr : jx_rc m pc = some row) (ha : jx_act pc row ls st h = some (.inr (.inr (cal, vs, rest)))) (hl : (jx_args vs).length ≤ (jx_mi cal).2.2.1) (hc : jx_T cal 0 (jx_ent cal vs) [] h r h1) (k : jx_T m (pc + 3) ls (r.toList ++ rest) h1 v h2) : jx_T m pc ls st h v h2 := by
  obtain ⟨n, hn⟩ := hc
  obtain ⟨n3, hn3⟩ := k
  refine ⟨max n n3 + 1, ?_⟩
  rw [jx_run]
  simp only [hr, ha, if_pos hl, jx_run_le hn (Nat.le_max_left n n3)]
  exact jx_run_le hn3 (Nat.le_max_right n n3)
/-- branches on a condition that is known -/
theorem jx_T.if_t {c : ClassFile.Cond} {o : Int} {len x y : Nat} {vv : Value} {a : Int32} (hr : jx_rc m pc = some (.ifCond c o, len, x, y, vv)) (hc : ∀ (α : Type) (s t : α), jx_br c a 0 s t = s) (k : jx_T m x ls st h v h2) : jx_T m pc ls (.int a :: st) h v h2 :=
  jx_T.step hr (hc _ _ _) k
theorem jx_T.if_f {c : ClassFile.Cond} {o : Int} {len x y : Nat} {vv : Value} {a : Int32} (hr : jx_rc m pc = some (.ifCond c o, len, x, y, vv)) (hc : ∀ (α : Type) (s t : α), jx_br c a 0 s t = t) (k : jx_T m (pc + 3) ls st h v h2) : jx_T m pc ls (.int a :: st) h v h2 :=
  jx_T.step hr (hc _ _ _) k
theorem jx_T.ic_t {c : ClassFile.Cond} {o : Int} {len x y : Nat} {vv : Value} {a b : Int32} (hr : jx_rc m pc = some (.if_icmp c o, len, x, y, vv)) (hc : ∀ (α : Type) (s t : α), jx_br c a b s t = s) (k : jx_T m x ls st h v h2) : jx_T m pc ls (.int b :: .int a :: st) h v h2 :=
  jx_T.step hr (hc _ _ _) k
theorem jx_T.ic_f {c : ClassFile.Cond} {o : Int} {len x y : Nat} {vv : Value} {a b : Int32} (hr : jx_rc m pc = some (.if_icmp c o, len, x, y, vv)) (hc : ∀ (α : Type) (s t : α), jx_br c a b s t = t) (k : jx_T m (pc + 3) ls st h v h2) : jx_T m pc ls (.int b :: .int a :: st) h v h2 :=
  jx_T.step hr (hc _ _ _) k
/-- the heap -/
theorem jx_T.getf {n x y a : Nat} {vv w : Value} {fs : List Value} (hr : jx_rc m pc = some (.getfield n, 3, x, y, vv)) (he : h.2.2 a = some (.inr (x, fs))) (hw : fs[y]? = some w) (k : jx_T m (pc + 3) ls (w :: st) h v h2) : jx_T m pc ls (.ref a :: st) h v h2 := by
  refine jx_T.step hr ?_ k
  simp only [jx_act, he, if_true, hw, jx_go]
theorem jx_T.putf {n x y a : Nat} {vv w : Value} {fs : List Value} (hr : jx_rc m pc = some (.putfield n, 3, x, y, vv)) (he : h.2.2 a = some (.inr (x, fs))) (hl : y < fs.length) (hf : jx_fit ((jx_fty.getD x []).getD y .int) w = true) (k : jx_T m (pc + 3) ls st (jx_set h a (.inr (x, fs.set y w))) v h2) : jx_T m pc ls (w :: .ref a :: st) h v h2 := by
  refine jx_T.step hr ?_ k
  simp only [jx_act, he, true_and, hl, hf, and_self, if_true, jx_go]
theorem jx_T.iald {x y a t n : Nat} {vv : Value} {f : Nat → Int32} {i : Int32} (hr : jx_rc m pc = some (.iaload, 1, x, y, vv)) (he : h.2.2 a = some (.inl (t, n, .inl f))) (ht : t = 0 ∨ t = 98) (hi : ¬ (i < 0) ∧ i.toNatClampNeg < n) (k : jx_T m (pc + 1) ls (.int (f i.toNatClampNeg) :: st) h v h2) : jx_T m pc ls (.int i :: .ref a :: st) h v h2 := by
  refine jx_T.step hr ?_ k
  simp only [jx_act, he, if_pos (And.intro ht hi), jx_go]
theorem jx_T.bald {x y a t n : Nat} {vv : Value} {f : Nat → Int32} {i : Int32} (hr : jx_rc m pc = some (.baload, 1, x, y, vv)) (he : h.2.2 a = some (.inl (t, n, .inl f))) (ht : t = 2 ∨ t = 3) (hi : ¬ (i < 0) ∧ i.toNatClampNeg < n) (k : jx_T m (pc + 1) ls (.int (f i.toNatClampNeg) :: st) h v h2) : jx_T m pc ls (.int i :: .ref a :: st) h v h2 := by
  refine jx_T.step hr ?_ k
  simp only [jx_act, he, if_pos (And.intro ht hi), jx_go]
theorem jx_T.lald {x y a n : Nat} {vv : Value} {f : Nat → Int64} {i : Int32} (hr : jx_rc m pc = some (.laload, 1, x, y, vv)) (he : h.2.2 a = some (.inl (1, n, .inr (.inl f)))) (hi : ¬ (i < 0) ∧ i.toNatClampNeg < n) (k : jx_T m (pc + 1) ls (.long (f i.toNatClampNeg) :: st) h v h2) : jx_T m pc ls (.int i :: .ref a :: st) h v h2 := by
  refine jx_T.step hr ?_ k
  simp only [jx_act, he, if_pos (And.intro trivial hi), jx_go]
theorem jx_T.aald {x y a t n : Nat} {vv : Value} {f : Nat → Option Nat} {i : Int32} (hr : jx_rc m pc = some (.aaload, 1, x, y, vv)) (he : h.2.2 a = some (.inl (t, n, .inr (.inr (.inr (.inr f)))))) (ht : 4 ≤ t ∧ t < 8) (hi : ¬ (i < 0) ∧ i.toNatClampNeg < n) (k : jx_T m (pc + 1) ls (va_rf (f i.toNatClampNeg) :: st) h v h2) : jx_T m pc ls (.int i :: .ref a :: st) h v h2 := by
  refine jx_T.step hr ?_ k
  simp only [jx_act, he, if_pos (And.intro ht hi), jx_go]
theorem jx_T.iast {x y a n : Nat} {vv : Value} {f : Nat → Int32} {i w : Int32} (hr : jx_rc m pc = some (.iastore, 1, x, y, vv)) (he : h.2.2 a = some (.inl (0, n, .inl f))) (hi : ¬ (i < 0) ∧ i.toNatClampNeg < n) (k : jx_T m (pc + 1) ls st (jx_set h a (.inl (0, n, .inl (upd f i.toNatClampNeg w)))) v h2) : jx_T m pc ls (.int w :: .int i :: .ref a :: st) h v h2 := by
  refine jx_T.step hr ?_ k
  simp only [jx_act, he, if_pos (And.intro trivial hi), jx_go]
theorem jx_T.last {x y a n : Nat} {vv : Value} {f : Nat → Int64} {i : Int32} {w : Int64} (hr : jx_rc m pc = some (.lastore, 1, x, y, vv)) (he : h.2.2 a = some (.inl (1, n, .inr (.inl f)))) (hi : ¬ (i < 0) ∧ i.toNatClampNeg < n) (k : jx_T m (pc + 1) ls st (jx_set h a (.inl (1, n, .inr (.inl (vp_updL f i.toNatClampNeg w))))) v h2) : jx_T m pc ls (.long w :: .int i :: .ref a :: st) h v h2 := by
  refine jx_T.step hr ?_ k
  simp only [jx_act, he, if_pos (And.intro trivial hi), jx_go]
theorem jx_T.zast {x y a n : Nat} {vv : Value} {f : Nat → Int32} {i w : Int32} (hr : jx_rc m pc = some (.bastore, 1, x, y, vv)) (he : h.2.2 a = some (.inl (3, n, .inl f))) (hi : ¬ (i < 0) ∧ i.toNatClampNeg < n) (k : jx_T m (pc + 1) ls st (jx_set h a (.inl (3, n, .inl (upd f i.toNatClampNeg (vp_nar .boolean w))))) v h2) : jx_T m pc ls (.int w :: .int i :: .ref a :: st) h v h2 := by
  refine jx_T.step hr ?_ k
  simp [jx_act, he, jx_go, hi.1, hi.2]
theorem jx_T.bast {x y a n : Nat} {vv : Value} {f : Nat → Int32} {i w : Int32} (hr : jx_rc m pc = some (.bastore, 1, x, y, vv)) (he : h.2.2 a = some (.inl (2, n, .inl f))) (hi : ¬ (i < 0) ∧ i.toNatClampNeg < n) (k : jx_T m (pc + 1) ls st (jx_set h a (.inl (2, n, .inl (upd f i.toNatClampNeg (vp_nar .byte w))))) v h2) : jx_T m pc ls (.int w :: .int i :: .ref a :: st) h v h2 := by
  refine jx_T.step hr ?_ k
  simp only [jx_act, he, if_pos (And.intro trivial hi), jx_go]
theorem jx_T.aast {x y a b t n c : Nat} {vv : Value} {f : Nat → Option Nat} {fs : List Value} {i : Int32} (hr : jx_rc m pc = some (.aastore, 1, x, y, vv)) (he : h.2.2 a = some (.inl (t, n, .inr (.inr (.inr (.inr f)))))) (hb : h.2.2 b = some (.inr (c, fs))) (ht : (4 ≤ t ∧ t < 8) ∧ c = jx_acl.getD t 99) (hi : ¬ (i < 0) ∧ i.toNatClampNeg < n) (k : jx_T m (pc + 1) ls st (jx_set h a (.inl (t, n, .inr (.inr (.inr (.inr (va_up f i.toNatClampNeg (some b)))))))) v h2) : jx_T m pc ls (.ref b :: .int i :: .ref a :: st) h v h2 := by
  refine jx_T.step hr ?_ k
  simp only [jx_act, he, hb, if_pos (And.intro ht hi), jx_go]
theorem jx_T.aastN {x y a t n : Nat} {vv : Value} {f : Nat → Option Nat} {i : Int32} (hr : jx_rc m pc = some (.aastore, 1, x, y, vv)) (he : h.2.2 a = some (.inl (t, n, .inr (.inr (.inr (.inr f)))))) (ht : 4 ≤ t ∧ t < 8) (hi : ¬ (i < 0) ∧ i.toNatClampNeg < n) (k : jx_T m (pc + 1) ls st (jx_set h a (.inl (t, n, .inr (.inr (.inr (.inr (va_up f i.toNatClampNeg none))))))) v h2) : jx_T m pc ls (.null :: .int i :: .ref a :: st) h v h2 := by
  refine jx_T.step hr ?_ k
  simp only [jx_act, he, if_pos (And.intro ht hi), jx_go]
theorem jx_T.alen {x y a t n : Nat} {vv : Value} {c : (Nat → Int32) ⊕ (Nat → Int64) ⊕ (Nat → UInt32) ⊕ (Nat → UInt64) ⊕ (Nat → Option Nat)} (hr : jx_rc m pc = some (.arraylength, 1, x, y, vv)) (he : h.2.2 a = some (.inl (t, n, c))) (ht : t < 8 ∨ t = 98) (k : jx_T m (pc + 1) ls (.int (Int32.ofNat n) :: st) h v h2) : jx_T m pc ls (.ref a :: st) h v h2 := by
  refine jx_T.step hr ?_ k
  simp only [jx_act, he, if_pos ht, jx_go]
/-- calls, by their kinds -/
theorem jx_T.virt {n len x y a c : Nat} {k0 : Int32} {vs rest : List Value} {fs : List Value} {r : Option Value} {h1 : jx_H} (hr : jx_rc m pc = some (.invokevirtual n, len, x, y, .int k0)) (hx : ¬ x = 5) (hd : st.drop k0.toNatClampNeg = .ref a :: rest) (he : h.2.2 a = some (.inr (c, fs))) (hc : jx_cat rest ≤ 8 ∧ c = (jx_mi y).2.2.2.2.1) (hv : .ref a :: (st.take k0.toNatClampNeg).reverse = vs) (hl : (jx_args vs).length ≤ (jx_mi y).2.2.1) (hM : jx_T y 0 (jx_ent y vs) [] h r h1) (k : jx_T m (pc + 3) ls (r.toList ++ rest) h1 v h2) : jx_T m pc ls st h v h2 := by
  subst hv
  refine jx_T.call hr ?_ hl hM k
  have hc2 : (jx_cat rest ≤ 8 ∨ (y = 68 ∧ jx_cat rest ≤ 9)) ∧ c = (jx_mi y).2.2.2.2.1 := ⟨Or.inl hc.1, hc.2⟩
  simp only [jx_act, if_neg hx, hd, he, if_pos hc2]
/-- a call over nine places: of one method alone -/
theorem jx_T.virt9 {n len x y a c : Nat} {k0 : Int32} {vs rest : List Value} {fs : List Value} {r : Option Value} {h1 : jx_H} (hr : jx_rc m pc = some (.invokevirtual n, len, x, y, .int k0)) (hx : ¬ x = 5) (hd : st.drop k0.toNatClampNeg = .ref a :: rest) (he : h.2.2 a = some (.inr (c, fs))) (h68 : y = 68) (hc : jx_cat rest ≤ 9 ∧ c = (jx_mi y).2.2.2.2.1) (hv : .ref a :: (st.take k0.toNatClampNeg).reverse = vs) (hl : (jx_args vs).length ≤ (jx_mi y).2.2.1) (hM : jx_T y 0 (jx_ent y vs) [] h r h1) (k : jx_T m (pc + 3) ls (r.toList ++ rest) h1 v h2) : jx_T m pc ls st h v h2 := by
  subst hv
  refine jx_T.call hr ?_ hl hM k
  have hc2 : (jx_cat rest ≤ 8 ∨ (y = 68 ∧ jx_cat rest ≤ 9)) ∧ c = (jx_mi y).2.2.2.2.1 := ⟨Or.inr ⟨h68, hc.1⟩, hc.2⟩
  simp only [jx_act, if_neg hx, hd, he, if_pos hc2]
theorem jx_T.spec {n len x y a : Nat} {k0 : Int32} {vs rest : List Value} {r : Option Value} {h1 : jx_H} (hr : jx_rc m pc = some (.invokespecial n, len, x, y, .int k0)) (hx : ¬ x = 4) (hd : st.drop k0.toNatClampNeg = .ref a :: rest) (hc : jx_cat rest ≤ 8) (hv : .ref a :: (st.take k0.toNatClampNeg).reverse = vs) (hl : (jx_args vs).length ≤ (jx_mi y).2.2.1) (hM : jx_T y 0 (jx_ent y vs) [] h r h1) (k : jx_T m (pc + 3) ls (r.toList ++ rest) h1 v h2) : jx_T m pc ls st h v h2 := by
  subst hv
  refine jx_T.call hr ?_ hl hM k
  simp only [jx_act, if_neg hx, hd, if_pos hc]
theorem jx_T.stat {n len x y : Nat} {k0 : Int32} {vs rest : List Value} {r : Option Value} {h1 : jx_H} (hr : jx_rc m pc = some (.invokestatic n, len, x, y, .int k0)) (hx : ¬ x = 6) (hc : jx_cat (st.drop k0.toNatClampNeg) ≤ 8 ∧ k0.toNatClampNeg ≤ st.length) (hv : (st.take k0.toNatClampNeg).reverse = vs) (hd : st.drop k0.toNatClampNeg = rest) (hl : (jx_args vs).length ≤ (jx_mi y).2.2.1) (hM : jx_T y 0 (jx_ent y vs) [] h r h1) (k : jx_T m (pc + 3) ls (r.toList ++ rest) h1 v h2) : jx_T m pc ls st h v h2 := by
  subst hv
  subst hd
  refine jx_T.call hr ?_ hl hM k
  simp only [jx_act, if_neg hx, if_pos hc]
end JXR
