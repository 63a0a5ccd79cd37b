/-! rules for the reference's methods: 'rf_G r m pc ls st h v R2': from here the method answers v and leaves the reference as R2, and all else as it was -/
def rf_G (r m pc : Nat) (ls st : List Value) (h : jx_H) (v : Option Value) (R2 : rf_R) : Prop := ∃ h2, jx_T m pc ls st h v h2 ∧ rf_At r R2 h2 ∧ rf_Fr r h h2
def rf_C (m r : Nat) (vs : List Value) (R : rf_R) (v : Option Value) (R2 : rf_R) : Prop := ∀ h, rf_At r R h → rf_G r m 0 (jx_ent m vs) [] h v R2
section RFG
variable {r m pc : Nat} {ls st : List Value} {h : jx_H} {v : Option Value} {R R2 : rf_R}
theorem rf_G.step {row : jx_Row} {pc' : Nat} {ls' st' : List Value} (hr : jx_rc m pc = some row) (ha : jx_act pc row ls st h = some (.inl (pc', ls', st', h))) (k : rf_G r m pc' ls' st' h v R2) : rf_G r m pc ls st h v R2 := by
  obtain ⟨h2, k1, k2, k3⟩ := k
  exact ⟨h2, jx_T.step hr ha k1, k2, k3⟩
theorem rf_G.ret {row : jx_Row} (H : rf_At r R h) (hr : jx_rc m pc = some row) (ha : jx_act pc row ls st h = some (.inr (.inl v))) : rf_G r m pc ls st h v R := ⟨h, jx_T.ret hr ha, H, rf_Fr.rf⟩
theorem rf_G.br {c : ClassFile.Cond} {o : Int} {len x y : Nat} {vv : Value} {a : Int32} (hr : jx_rc m pc = some (.ifCond c o, len, x, y, vv)) {P : Prop} [Decidable P] (hc : ∀ (α : Type) (s t : α), jx_br c a 0 s t = if P then s else t) (kt : P → rf_G r m x ls st h v R2) (kf : ¬ P → rf_G r m (pc + 3) ls st h v R2) : rf_G r m pc ls (.int a :: st) h v R2 := by
  by_cases hp : P
  · obtain ⟨h2, k1, k2, k3⟩ := kt hp
    exact ⟨h2, jx_T.if_t hr (fun α s t => by rw [hc, if_pos hp]) k1, k2, k3⟩
  · obtain ⟨h2, k1, k2, k3⟩ := kf hp
    exact ⟨h2, jx_T.if_f hr (fun α s t => by rw [hc, if_neg hp]) k1, k2, k3⟩
theorem rf_G.bc {c : ClassFile.Cond} {o : Int} {len x y : Nat} {vv : Value} {a b : Int32} (hr : jx_rc m pc = some (.if_icmp c o, len, x, y, vv)) {P : Prop} [Decidable P] (hc : ∀ (α : Type) (s t : α), jx_br c a b s t = if P then s else t) (kt : P → rf_G r m x ls st h v R2) (kf : ¬ P → rf_G r m (pc + 3) ls st h v R2) : rf_G r m pc ls (.int b :: .int a :: st) h v R2 := by
  by_cases hp : P
  · obtain ⟨h2, k1, k2, k3⟩ := kt hp
    exact ⟨h2, jx_T.ic_t hr (fun α s t => by rw [hc, if_pos hp]) k1, k2, k3⟩
  · obtain ⟨h2, k1, k2, k3⟩ := kf hp
    exact ⟨h2, jx_T.ic_f hr (fun α s t => by rw [hc, if_neg hp]) k1, k2, k3⟩
/-- 'ne' turned: the jump is taken where they differ -/
theorem rf_G.brn {o : Int} {len x y : Nat} {vv : Value} {a : Int32} (hr : jx_rc m pc = some (.ifCond .ne o, len, x, y, vv)) (kt : ¬ a = 0 → rf_G r m x ls st h v R2) (kf : a = 0 → rf_G r m (pc + 3) ls st h v R2) : rf_G r m pc ls (.int a :: st) h v R2 := by
  by_cases hp : a = 0
  · obtain ⟨h2, k1, k2, k3⟩ := kf hp
    exact ⟨h2, jx_T.if_f hr (fun α s t => by simp [jx_br, hp]) k1, k2, k3⟩
  · obtain ⟨h2, k1, k2, k3⟩ := kt hp
    exact ⟨h2, jx_T.if_t hr (fun α s t => by simp [jx_br, hp]) k1, k2, k3⟩
theorem rf_G.bcn {o : Int} {len x y : Nat} {vv : Value} {a b : Int32} (hr : jx_rc m pc = some (.if_icmp .ne o, len, x, y, vv)) (kt : ¬ a = b → rf_G r m x ls st h v R2) (kf : a = b → rf_G r m (pc + 3) ls st h v R2) : rf_G r m pc ls (.int b :: .int a :: st) h v R2 := by
  by_cases hp : a = b
  · obtain ⟨h2, k1, k2, k3⟩ := kf hp
    exact ⟨h2, jx_T.ic_f hr (fun α s t => by simp [jx_br, hp]) k1, k2, k3⟩
  · obtain ⟨h2, k1, k2, k3⟩ := kt hp
    exact ⟨h2, jx_T.ic_t hr (fun α s t => by simp [jx_br, hp]) k1, k2, k3⟩
theorem rf_G.get (H : rf_At r R h) {n y : Nat} {vv w : Value} (hr : jx_rc m pc = some (.getfield n, 3, 12, y, vv)) (hw : (rf_fs r R)[y]? = some w) (k : rf_G r m (pc + 3) ls (w :: st) h v R2) : rf_G r m pc ls (.ref r :: st) h v R2 := by
  obtain ⟨h2, k1, k2, k3⟩ := k
  exact ⟨h2, jx_T.getf hr H.1 hw k1, k2, k3⟩
theorem rf_G.putI (H : rf_At r R h) {n y : Nat} {vv : Value} {x : Int32} (hr : jx_rc m pc = some (.putfield n, 3, 12, y, vv)) (hf : jx_fit ((jx_fty.getD 12 []).getD y .int) (.int x) = true) (hy : y < 40) (hs : rf_fs r (rf_sI R y x) = (rf_fs r R).set y (.int x)) (k : ∀ h, rf_At r (rf_sI R y x) h → rf_G r m (pc + 3) ls st h v R2) : rf_G r m pc ls (.int x :: .ref r :: st) h v R2 := by
  obtain ⟨h2, k1, k2, k3⟩ := k _ (H.ob (R2 := rf_sI R y x) (fs := (rf_fs r R).set y (.int x)) hs rfl rfl)
  exact ⟨h2, jx_T.putf hr H.1 hy hf k1, k2, (rf_Fr.st (Nat.le_refl r) (by omega)).tr k3⟩
theorem rf_G.putL (H : rf_At r R h) {n y : Nat} {vv : Value} {x : Int64} (hr : jx_rc m pc = some (.putfield n, 3, 12, y, vv)) (hf : jx_fit ((jx_fty.getD 12 []).getD y .int) (.long x) = true) (hy : y < 40) (hs : rf_fs r (rf_sL R y x) = (rf_fs r R).set y (.long x)) (k : ∀ h, rf_At r (rf_sL R y x) h → rf_G r m (pc + 3) ls st h v R2) : rf_G r m pc ls (.long x :: .ref r :: st) h v R2 := by
  obtain ⟨h2, k1, k2, k3⟩ := k _ (H.ob (R2 := rf_sL R y x) (fs := (rf_fs r R).set y (.long x)) hs rfl rfl)
  exact ⟨h2, jx_T.putf hr H.1 hy hf k1, k2, (rf_Fr.st (Nat.le_refl r) (by omega)).tr k3⟩
theorem rf_G.iald (H : rf_At r R h) (f o n : Nat) (hq : (f, o, 0, n) ∈ rf_tab) {x y : Nat} {vv : Value} {i : Int32} (hr : jx_rc m pc = some (.iaload, 1, x, y, vv)) (hi : ¬ (i < 0) ∧ i.toNatClampNeg < n) (k : rf_G r m (pc + 1) ls (.int (R.1 f i.toNatClampNeg) :: st) h v R2) : rf_G r m pc ls (.int i :: .ref (r + o) :: st) h v R2 := by
  obtain ⟨h2, k1, k2, k3⟩ := k
  exact ⟨h2, jx_T.iald hr (H.a hq (by decide)) (Or.inl rfl) hi k1, k2, k3⟩
theorem rf_G.zald (H : rf_At r R h) (f o n : Nat) (hq : (f, o, 3, n) ∈ rf_tab) {x y : Nat} {vv : Value} {i : Int32} (hr : jx_rc m pc = some (.baload, 1, x, y, vv)) (hi : ¬ (i < 0) ∧ i.toNatClampNeg < n) (k : rf_G r m (pc + 1) ls (.int (R.1 f i.toNatClampNeg) :: st) h v R2) : rf_G r m pc ls (.int i :: .ref (r + o) :: st) h v R2 := by
  obtain ⟨h2, k1, k2, k3⟩ := k
  exact ⟨h2, jx_T.bald hr (H.a hq (by decide)) (Or.inr rfl) hi k1, k2, k3⟩
theorem rf_G.lald (H : rf_At r R h) (f o n : Nat) (hq : (f, o, 1, n) ∈ rf_tab) {x y : Nat} {vv : Value} {i : Int32} (hr : jx_rc m pc = some (.laload, 1, x, y, vv)) (hi : ¬ (i < 0) ∧ i.toNatClampNeg < n) (k : rf_G r m (pc + 1) ls (.long (R.2.1 f i.toNatClampNeg) :: st) h v R2) : rf_G r m pc ls (.int i :: .ref (r + o) :: st) h v R2 := by
  obtain ⟨h2, k1, k2, k3⟩ := k
  exact ⟨h2, jx_T.lald hr (H.b hq) hi k1, k2, k3⟩
theorem rf_G.iast (H : rf_At r R h) (f o n : Nat) (hq : (f, o, 0, n) ∈ rf_tab) {x y : Nat} {vv : Value} {i w : Int32} (hr : jx_rc m pc = some (.iastore, 1, x, y, vv)) (hi : ¬ (i < 0) ∧ i.toNatClampNeg < n) (k : ∀ h, rf_At r (rf_sA R f (upd (R.1 f) i.toNatClampNeg w)) h → rf_G r m (pc + 1) ls st h v R2) : rf_G r m pc ls (.int w :: .int i :: .ref (r + o) :: st) h v R2 := by
  obtain ⟨h2, k1, k2, k3⟩ := k _ (H.sA hq (by decide))
  have := rf_tab_in _ hq
  exact ⟨h2, jx_T.iast hr (H.a hq (by decide)) hi k1, k2, (rf_Fr.st (by omega) (by have := this.2; dsimp only at this; omega)).tr k3⟩
theorem rf_G.zast (H : rf_At r R h) (f o n : Nat) (hq : (f, o, 3, n) ∈ rf_tab) {x y : Nat} {vv : Value} {i w : Int32} (hr : jx_rc m pc = some (.bastore, 1, x, y, vv)) (hi : ¬ (i < 0) ∧ i.toNatClampNeg < n) (k : ∀ h, rf_At r (rf_sA R f (upd (R.1 f) i.toNatClampNeg (vp_nar .boolean w))) h → rf_G r m (pc + 1) ls st h v R2) : rf_G r m pc ls (.int w :: .int i :: .ref (r + o) :: st) h v R2 := by
  obtain ⟨h2, k1, k2, k3⟩ := k _ (H.sA hq (by decide))
  have := rf_tab_in _ hq
  exact ⟨h2, jx_T.zast hr (H.a hq (by decide)) hi k1, k2, (rf_Fr.st (by omega) (by have := this.2; dsimp only at this; omega)).tr k3⟩
theorem rf_G.last (H : rf_At r R h) (f o n : Nat) (hq : (f, o, 1, n) ∈ rf_tab) {x y : Nat} {vv : Value} {i : Int32} {w : Int64} (hr : jx_rc m pc = some (.lastore, 1, x, y, vv)) (hi : ¬ (i < 0) ∧ i.toNatClampNeg < n) (k : ∀ h, rf_At r (rf_sB R f (vp_updL (R.2.1 f) i.toNatClampNeg w)) h → rf_G r m (pc + 1) ls st h v R2) : rf_G r m pc ls (.long w :: .int i :: .ref (r + o) :: st) h v R2 := by
  obtain ⟨h2, k1, k2, k3⟩ := k _ (H.sB hq)
  have := rf_tab_in _ hq
  exact ⟨h2, jx_T.last hr (H.b hq) hi k1, k2, (rf_Fr.st (by omega) (by have := this.2; dsimp only at this; omega)).tr k3⟩
theorem rf_G.irem {x y : Nat} {vv : Value} {a b : Int32} (hr : jx_rc m pc = some (.irem, 1, x, y, vv)) (hb : ¬ b = 0) (k : rf_G r m (pc + 1) ls (.int (a - a / b * b) :: st) h v R2) : rf_G r m pc ls (.int b :: .int a :: st) h v R2 := by
  refine rf_G.step hr ?_ k
  simp only [jx_act, if_neg hb, jx_go]
theorem rf_G.idiv {x y : Nat} {vv : Value} {a b : Int32} (hr : jx_rc m pc = some (.idiv, 1, x, y, vv)) (hb : ¬ b = 0) (k : rf_G r m (pc + 1) ls (.int (a / b) :: st) h v R2) : rf_G r m pc ls (.int b :: .int a :: st) h v R2 := by
  refine rf_G.step hr ?_ k
  simp only [jx_act, if_neg hb, jx_go]
theorem rf_G.ldiv {x y : Nat} {vv : Value} {a b : Int64} (hr : jx_rc m pc = some (.ldiv, 1, x, y, vv)) (hb : ¬ b = 0) (k : rf_G r m (pc + 1) ls (.long (a / b) :: st) h v R2) : rf_G r m pc ls (.long b :: .long a :: st) h v R2 := by
  refine rf_G.step hr ?_ k
  simp only [jx_act, if_neg hb, jx_go]
/-- a call of one of its own methods, by contract -/
theorem rf_G.virt (H : rf_At r R h) {n len x y : Nat} {k0 : Int32} {vs rest : List Value} {w : Option Value} {R1 : rf_R} (hr : jx_rc m pc = some (.invokevirtual n, len, x, y, .int k0)) (hx : ¬ x = 5) (hd : st.drop k0.toNatClampNeg = .ref r :: rest) (hc : jx_cat rest ≤ 8 ∧ 12 = (jx_mi y).2.2.2.2.1) (hv : .ref r :: (st.take k0.toNatClampNeg).reverse = vs) (hl : (jx_args vs).length ≤ (jx_mi y).2.2.1) (hM : rf_C y r vs R w R1) (k : ∀ h, rf_At r R1 h → rf_G r m (pc + 3) ls (w.toList ++ rest) h v R2) : rf_G r m pc ls st h v R2 := by
  obtain ⟨h1, m1, m2, m3⟩ := hM h H
  obtain ⟨h2, k1, k2, k3⟩ := k h1 m2
  exact ⟨h2, jx_T.virt hr hx hd H.1 hc hv hl m1 k1, k2, m3.tr k3⟩
/-- a call of a static method that reaches no heap -/
theorem rf_G.stat {n len x y : Nat} {k0 : Int32} {vs rest : List Value} {w : Option Value} (hr : jx_rc m pc = some (.invokestatic n, len, x, y, .int k0)) (hx : ¬ x = 6) (hc : jx_cat (st.drop k0.toNatClampNeg) ≤ 8 ∧ k0.toNatClampNeg ≤ st.length) (hv : (st.take k0.toNatClampNeg).reverse = vs) (hd : st.drop k0.toNatClampNeg = rest) (hl : (jx_args vs).length ≤ (jx_mi y).2.2.1) (hM : ∀ h, jx_T y 0 (jx_ent y vs) [] h w h) (k : rf_G r m (pc + 3) ls (w.toList ++ rest) h v R2) : rf_G r m pc ls st h v R2 := by
  obtain ⟨h2, k1, k2, k3⟩ := k
  exact ⟨h2, jx_T.stat hr hx hc hv hd hl (hM h) k1, k2, k3⟩
end RFG
/-- the conditions of branches, as they are read -/
theorem jx_br_eq (a b : Int32) (α : Type) (s t : α) : jx_br .eq a b s t = if a = b then s else t := rfl
theorem jx_br_lt (a b : Int32) (α : Type) (s t : α) : jx_br .lt a b s t = if a < b then s else t := rfl
theorem jx_br_ge (a b : Int32) (α : Type) (s t : α) : jx_br .ge a b s t = if b ≤ a then s else t := rfl
theorem jx_br_gt (a b : Int32) (α : Type) (s t : α) : jx_br .gt a b s t = if b < a then s else t := rfl
theorem jx_br_le (a b : Int32) (α : Type) (s t : α) : jx_br .le a b s t = if a ≤ b then s else t := rfl
