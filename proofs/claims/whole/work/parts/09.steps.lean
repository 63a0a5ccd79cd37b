/-! SOUNDNESS, second: one lemma an instruction (written by wip/gen/gen4.py) -/
def jx_Ctx (p : Program) (R : Room) (s : State) (mm : MethodId) (args : Array Value) (meth : Method) (c : Code) (m b n1 : Nat) (D : va_G) (aC : Nat → ClassId) : Prop :=
  p.tables.exec = Jvm.exec ∧ c.code = (jx_mi m).2.1 ∧ c.maxLocals = (jx_mi m).2.2.1 ∧ s.vm.findClass (jx_cn (jx_mi m).2.2.2.2.1) = some mm.cls ∧ (∀ w ∈ jx_big, w.before args s = true) ∧ (∀ w ∈ tables_1, jx_isN w = true → va_Nw w s) ∧ va_K D jx_cl (jx_tys aC) s ∧ ((jx_mi m).1.name = "<init>" → meth.name = "<init>") ∧ (jx_mi m).2.2.2.2.2.1 ≤ R.frames ∧ (jx_mi m).2.2.2.2.2.2 ≤ R.locals ∧ b ≤ n1 ∧ n1 + 1 ≤ s.heap.size
def jx_K (p : Program) (l : Launch) (e : Env) (R : Room) (s : State) (mm : MethodId) (args : Array Value) (below : List Frame) (meth : Method) (c : Code) (Q : State → Prop) (k0 z0 m b n1 : Nat) (D : va_G) (aC : Nat → ClassId) (pc : Nat) (ls st : List Value) (h : jx_H) : Prop :=
  ∀ (arr : Array Slot) (H : Heap) (locs : List Loc), jx_LR b n1 ls arr (jx_mi m).2.2.1 → jx_Rep b n1 D aC s h H → va_S (fun q => n1 < q) s.heap H locs → W p l e R s mm args below meth c H locs (h.1 - k0) (h.2.1 - z0) Q (F0 mm pc arr (st.map (jx_cv b n1)))
section JXS
variable {p : Program} {l : Launch} {e : Env} {R : Room} {s : State} {mm : MethodId} {args : Array Value} {below : List Frame} {meth : Method} {c : Code} {Q : State → Prop} {k0 z0 m b n1 : Nat} {D : va_G} {aC : Nat → ClassId} {pc : Nat} {ls st : List Value} {h : jx_H} {pc' : Nat} {ls' st' : List Value} {h' : jx_H} {x y : Nat} {v : Value}
theorem jx_s_iadd (C : jx_Ctx p R s mm args meth c m b n1 D aC)  (hd : decode (jx_mi m).2.1 pc = .ok (.iadd, 1))  (ha : jx_act pc (.iadd, 1, x, y, v) ls st h = some (.inl (pc', ls', st', h'))) (kk : jx_K p l e R s mm args below meth c Q k0 z0 m b n1 D aC pc' ls' st' h') : jx_K p l e R s mm args below meth c Q k0 z0 m b n1 D aC pc ls st h := by
  simp only [jx_act] at ha
  split at ha
  · simp only [jx_go, Option.some.injEq, Sum.inl.injEq, Prod.mk.injEq] at ha
    obtain ⟨rfl, rfl, rfl, rfl⟩ := ha
    exact fun arr H locs hL hR hS => lv_iadd C.1 C.2.1 hd (kk arr H locs hL hR hS)
  · cases ha
theorem jx_s_isub (C : jx_Ctx p R s mm args meth c m b n1 D aC)  (hd : decode (jx_mi m).2.1 pc = .ok (.isub, 1))  (ha : jx_act pc (.isub, 1, x, y, v) ls st h = some (.inl (pc', ls', st', h'))) (kk : jx_K p l e R s mm args below meth c Q k0 z0 m b n1 D aC pc' ls' st' h') : jx_K p l e R s mm args below meth c Q k0 z0 m b n1 D aC pc ls st h := by
  simp only [jx_act] at ha
  split at ha
  · simp only [jx_go, Option.some.injEq, Sum.inl.injEq, Prod.mk.injEq] at ha
    obtain ⟨rfl, rfl, rfl, rfl⟩ := ha
    exact fun arr H locs hL hR hS => lv_isub C.1 C.2.1 hd (kk arr H locs hL hR hS)
  · cases ha
theorem jx_s_imul (C : jx_Ctx p R s mm args meth c m b n1 D aC)  (hd : decode (jx_mi m).2.1 pc = .ok (.imul, 1))  (ha : jx_act pc (.imul, 1, x, y, v) ls st h = some (.inl (pc', ls', st', h'))) (kk : jx_K p l e R s mm args below meth c Q k0 z0 m b n1 D aC pc' ls' st' h') : jx_K p l e R s mm args below meth c Q k0 z0 m b n1 D aC pc ls st h := by
  simp only [jx_act] at ha
  split at ha
  · simp only [jx_go, Option.some.injEq, Sum.inl.injEq, Prod.mk.injEq] at ha
    obtain ⟨rfl, rfl, rfl, rfl⟩ := ha
    exact fun arr H locs hL hR hS => lv_imul C.1 C.2.1 hd (kk arr H locs hL hR hS)
  · cases ha
theorem jx_s_iand (C : jx_Ctx p R s mm args meth c m b n1 D aC)  (hd : decode (jx_mi m).2.1 pc = .ok (.iand, 1))  (ha : jx_act pc (.iand, 1, x, y, v) ls st h = some (.inl (pc', ls', st', h'))) (kk : jx_K p l e R s mm args below meth c Q k0 z0 m b n1 D aC pc' ls' st' h') : jx_K p l e R s mm args below meth c Q k0 z0 m b n1 D aC pc ls st h := by
  simp only [jx_act] at ha
  split at ha
  · simp only [jx_go, Option.some.injEq, Sum.inl.injEq, Prod.mk.injEq] at ha
    obtain ⟨rfl, rfl, rfl, rfl⟩ := ha
    exact fun arr H locs hL hR hS => lv_iand C.1 C.2.1 hd (kk arr H locs hL hR hS)
  · cases ha
theorem jx_s_ior (C : jx_Ctx p R s mm args meth c m b n1 D aC)  (hd : decode (jx_mi m).2.1 pc = .ok (.ior, 1))  (ha : jx_act pc (.ior, 1, x, y, v) ls st h = some (.inl (pc', ls', st', h'))) (kk : jx_K p l e R s mm args below meth c Q k0 z0 m b n1 D aC pc' ls' st' h') : jx_K p l e R s mm args below meth c Q k0 z0 m b n1 D aC pc ls st h := by
  simp only [jx_act] at ha
  split at ha
  · simp only [jx_go, Option.some.injEq, Sum.inl.injEq, Prod.mk.injEq] at ha
    obtain ⟨rfl, rfl, rfl, rfl⟩ := ha
    exact fun arr H locs hL hR hS => lv_ior C.1 C.2.1 hd (kk arr H locs hL hR hS)
  · cases ha
theorem jx_s_ixor (C : jx_Ctx p R s mm args meth c m b n1 D aC)  (hd : decode (jx_mi m).2.1 pc = .ok (.ixor, 1))  (ha : jx_act pc (.ixor, 1, x, y, v) ls st h = some (.inl (pc', ls', st', h'))) (kk : jx_K p l e R s mm args below meth c Q k0 z0 m b n1 D aC pc' ls' st' h') : jx_K p l e R s mm args below meth c Q k0 z0 m b n1 D aC pc ls st h := by
  simp only [jx_act] at ha
  split at ha
  · simp only [jx_go, Option.some.injEq, Sum.inl.injEq, Prod.mk.injEq] at ha
    obtain ⟨rfl, rfl, rfl, rfl⟩ := ha
    exact fun arr H locs hL hR hS => lv_ixor C.1 C.2.1 hd (kk arr H locs hL hR hS)
  · cases ha
theorem jx_s_ineg (C : jx_Ctx p R s mm args meth c m b n1 D aC)  (hd : decode (jx_mi m).2.1 pc = .ok (.ineg, 1))  (ha : jx_act pc (.ineg, 1, x, y, v) ls st h = some (.inl (pc', ls', st', h'))) (kk : jx_K p l e R s mm args below meth c Q k0 z0 m b n1 D aC pc' ls' st' h') : jx_K p l e R s mm args below meth c Q k0 z0 m b n1 D aC pc ls st h := by
  simp only [jx_act] at ha
  split at ha
  · simp only [jx_go, Option.some.injEq, Sum.inl.injEq, Prod.mk.injEq] at ha
    obtain ⟨rfl, rfl, rfl, rfl⟩ := ha
    exact fun arr H locs hL hR hS => lv_ineg C.1 C.2.1 hd (kk arr H locs hL hR hS)
  · cases ha
theorem jx_s_ishl (C : jx_Ctx p R s mm args meth c m b n1 D aC)  (hd : decode (jx_mi m).2.1 pc = .ok (.ishl, 1))  (ha : jx_act pc (.ishl, 1, x, y, v) ls st h = some (.inl (pc', ls', st', h'))) (kk : jx_K p l e R s mm args below meth c Q k0 z0 m b n1 D aC pc' ls' st' h') : jx_K p l e R s mm args below meth c Q k0 z0 m b n1 D aC pc ls st h := by
  simp only [jx_act] at ha
  split at ha
  · simp only [jx_go, Option.some.injEq, Sum.inl.injEq, Prod.mk.injEq] at ha
    obtain ⟨rfl, rfl, rfl, rfl⟩ := ha
    exact fun arr H locs hL hR hS => lv_ishl C.1 C.2.1 hd (kk arr H locs hL hR hS)
  · cases ha
theorem jx_s_ishr (C : jx_Ctx p R s mm args meth c m b n1 D aC)  (hd : decode (jx_mi m).2.1 pc = .ok (.ishr, 1))  (ha : jx_act pc (.ishr, 1, x, y, v) ls st h = some (.inl (pc', ls', st', h'))) (kk : jx_K p l e R s mm args below meth c Q k0 z0 m b n1 D aC pc' ls' st' h') : jx_K p l e R s mm args below meth c Q k0 z0 m b n1 D aC pc ls st h := by
  simp only [jx_act] at ha
  split at ha
  · simp only [jx_go, Option.some.injEq, Sum.inl.injEq, Prod.mk.injEq] at ha
    obtain ⟨rfl, rfl, rfl, rfl⟩ := ha
    exact fun arr H locs hL hR hS => lv_ishr C.1 C.2.1 hd (kk arr H locs hL hR hS)
  · cases ha
theorem jx_s_ladd (C : jx_Ctx p R s mm args meth c m b n1 D aC)  (hd : decode (jx_mi m).2.1 pc = .ok (.ladd, 1))  (ha : jx_act pc (.ladd, 1, x, y, v) ls st h = some (.inl (pc', ls', st', h'))) (kk : jx_K p l e R s mm args below meth c Q k0 z0 m b n1 D aC pc' ls' st' h') : jx_K p l e R s mm args below meth c Q k0 z0 m b n1 D aC pc ls st h := by
  simp only [jx_act] at ha
  split at ha
  · simp only [jx_go, Option.some.injEq, Sum.inl.injEq, Prod.mk.injEq] at ha
    obtain ⟨rfl, rfl, rfl, rfl⟩ := ha
    exact fun arr H locs hL hR hS => lv_ladd C.1 C.2.1 hd (kk arr H locs hL hR hS)
  · cases ha
theorem jx_s_lsub (C : jx_Ctx p R s mm args meth c m b n1 D aC)  (hd : decode (jx_mi m).2.1 pc = .ok (.lsub, 1))  (ha : jx_act pc (.lsub, 1, x, y, v) ls st h = some (.inl (pc', ls', st', h'))) (kk : jx_K p l e R s mm args below meth c Q k0 z0 m b n1 D aC pc' ls' st' h') : jx_K p l e R s mm args below meth c Q k0 z0 m b n1 D aC pc ls st h := by
  simp only [jx_act] at ha
  split at ha
  · simp only [jx_go, Option.some.injEq, Sum.inl.injEq, Prod.mk.injEq] at ha
    obtain ⟨rfl, rfl, rfl, rfl⟩ := ha
    exact fun arr H locs hL hR hS => lv_lsub C.1 C.2.1 hd (kk arr H locs hL hR hS)
  · cases ha
theorem jx_s_lmul (C : jx_Ctx p R s mm args meth c m b n1 D aC)  (hd : decode (jx_mi m).2.1 pc = .ok (.lmul, 1))  (ha : jx_act pc (.lmul, 1, x, y, v) ls st h = some (.inl (pc', ls', st', h'))) (kk : jx_K p l e R s mm args below meth c Q k0 z0 m b n1 D aC pc' ls' st' h') : jx_K p l e R s mm args below meth c Q k0 z0 m b n1 D aC pc ls st h := by
  simp only [jx_act] at ha
  split at ha
  · simp only [jx_go, Option.some.injEq, Sum.inl.injEq, Prod.mk.injEq] at ha
    obtain ⟨rfl, rfl, rfl, rfl⟩ := ha
    exact fun arr H locs hL hR hS => lv_lmul C.1 C.2.1 hd (kk arr H locs hL hR hS)
  · cases ha
theorem jx_s_lxor (C : jx_Ctx p R s mm args meth c m b n1 D aC)  (hd : decode (jx_mi m).2.1 pc = .ok (.lxor, 1))  (ha : jx_act pc (.lxor, 1, x, y, v) ls st h = some (.inl (pc', ls', st', h'))) (kk : jx_K p l e R s mm args below meth c Q k0 z0 m b n1 D aC pc' ls' st' h') : jx_K p l e R s mm args below meth c Q k0 z0 m b n1 D aC pc ls st h := by
  simp only [jx_act] at ha
  split at ha
  · simp only [jx_go, Option.some.injEq, Sum.inl.injEq, Prod.mk.injEq] at ha
    obtain ⟨rfl, rfl, rfl, rfl⟩ := ha
    exact fun arr H locs hL hR hS => lv_lxor C.1 C.2.1 hd (kk arr H locs hL hR hS)
  · cases ha
theorem jx_s_lneg (C : jx_Ctx p R s mm args meth c m b n1 D aC)  (hd : decode (jx_mi m).2.1 pc = .ok (.lneg, 1))  (ha : jx_act pc (.lneg, 1, x, y, v) ls st h = some (.inl (pc', ls', st', h'))) (kk : jx_K p l e R s mm args below meth c Q k0 z0 m b n1 D aC pc' ls' st' h') : jx_K p l e R s mm args below meth c Q k0 z0 m b n1 D aC pc ls st h := by
  simp only [jx_act] at ha
  split at ha
  · simp only [jx_go, Option.some.injEq, Sum.inl.injEq, Prod.mk.injEq] at ha
    obtain ⟨rfl, rfl, rfl, rfl⟩ := ha
    exact fun arr H locs hL hR hS => lv_lneg C.1 C.2.1 hd (kk arr H locs hL hR hS)
  · cases ha
theorem jx_s_lcmp (C : jx_Ctx p R s mm args meth c m b n1 D aC)  (hd : decode (jx_mi m).2.1 pc = .ok (.lcmp, 1))  (ha : jx_act pc (.lcmp, 1, x, y, v) ls st h = some (.inl (pc', ls', st', h'))) (kk : jx_K p l e R s mm args below meth c Q k0 z0 m b n1 D aC pc' ls' st' h') : jx_K p l e R s mm args below meth c Q k0 z0 m b n1 D aC pc ls st h := by
  simp only [jx_act] at ha
  split at ha
  · simp only [jx_go, Option.some.injEq, Sum.inl.injEq, Prod.mk.injEq] at ha
    obtain ⟨rfl, rfl, rfl, rfl⟩ := ha
    exact fun arr H locs hL hR hS => W.lcmp C.1 C.2.1 hd (kk arr H locs hL hR hS)
  · cases ha
theorem jx_s_i2l (C : jx_Ctx p R s mm args meth c m b n1 D aC)  (hd : decode (jx_mi m).2.1 pc = .ok (.i2l, 1))  (ha : jx_act pc (.i2l, 1, x, y, v) ls st h = some (.inl (pc', ls', st', h'))) (kk : jx_K p l e R s mm args below meth c Q k0 z0 m b n1 D aC pc' ls' st' h') : jx_K p l e R s mm args below meth c Q k0 z0 m b n1 D aC pc ls st h := by
  simp only [jx_act] at ha
  split at ha
  · simp only [jx_go, Option.some.injEq, Sum.inl.injEq, Prod.mk.injEq] at ha
    obtain ⟨rfl, rfl, rfl, rfl⟩ := ha
    exact fun arr H locs hL hR hS => lv_i2l C.1 C.2.1 hd rfl (kk arr H locs hL hR hS)
  · cases ha
theorem jx_s_l2i (C : jx_Ctx p R s mm args meth c m b n1 D aC)  (hd : decode (jx_mi m).2.1 pc = .ok (.l2i, 1))  (ha : jx_act pc (.l2i, 1, x, y, v) ls st h = some (.inl (pc', ls', st', h'))) (kk : jx_K p l e R s mm args below meth c Q k0 z0 m b n1 D aC pc' ls' st' h') : jx_K p l e R s mm args below meth c Q k0 z0 m b n1 D aC pc ls st h := by
  simp only [jx_act] at ha
  split at ha
  · simp only [jx_go, Option.some.injEq, Sum.inl.injEq, Prod.mk.injEq] at ha
    obtain ⟨rfl, rfl, rfl, rfl⟩ := ha
    exact fun arr H locs hL hR hS => lv_l2i C.1 C.2.1 hd rfl (kk arr H locs hL hR hS)
  · cases ha
theorem jx_s_i2b (C : jx_Ctx p R s mm args meth c m b n1 D aC)  (hd : decode (jx_mi m).2.1 pc = .ok (.i2b, 1))  (ha : jx_act pc (.i2b, 1, x, y, v) ls st h = some (.inl (pc', ls', st', h'))) (kk : jx_K p l e R s mm args below meth c Q k0 z0 m b n1 D aC pc' ls' st' h') : jx_K p l e R s mm args below meth c Q k0 z0 m b n1 D aC pc ls st h := by
  simp only [jx_act] at ha
  split at ha
  · simp only [jx_go, Option.some.injEq, Sum.inl.injEq, Prod.mk.injEq] at ha
    obtain ⟨rfl, rfl, rfl, rfl⟩ := ha
    exact fun arr H locs hL hR hS => lv_i2b C.1 C.2.1 hd rfl (kk arr H locs hL hR hS)
  · cases ha
theorem jx_s_i2s (C : jx_Ctx p R s mm args meth c m b n1 D aC)  (hd : decode (jx_mi m).2.1 pc = .ok (.i2s, 1))  (ha : jx_act pc (.i2s, 1, x, y, v) ls st h = some (.inl (pc', ls', st', h'))) (kk : jx_K p l e R s mm args below meth c Q k0 z0 m b n1 D aC pc' ls' st' h') : jx_K p l e R s mm args below meth c Q k0 z0 m b n1 D aC pc ls st h := by
  simp only [jx_act] at ha
  split at ha
  · simp only [jx_go, Option.some.injEq, Sum.inl.injEq, Prod.mk.injEq] at ha
    obtain ⟨rfl, rfl, rfl, rfl⟩ := ha
    exact fun arr H locs hL hR hS => lv_i2s C.1 C.2.1 hd rfl (kk arr H locs hL hR hS)
  · cases ha
theorem jx_s_iushr (C : jx_Ctx p R s mm args meth c m b n1 D aC)  (hd : decode (jx_mi m).2.1 pc = .ok (.iushr, 1))  (ha : jx_act pc (.iushr, 1, x, y, v) ls st h = some (.inl (pc', ls', st', h'))) (kk : jx_K p l e R s mm args below meth c Q k0 z0 m b n1 D aC pc' ls' st' h') : jx_K p l e R s mm args below meth c Q k0 z0 m b n1 D aC pc ls st h := by
  simp only [jx_act] at ha
  split at ha
  · simp only [jx_go, Option.some.injEq, Sum.inl.injEq, Prod.mk.injEq] at ha
    obtain ⟨rfl, rfl, rfl, rfl⟩ := ha
    exact fun arr H locs hL hR hS => lv_iushr C.1 C.2.1 hd rfl (kk arr H locs hL hR hS)
  · cases ha
theorem jx_s_idiv (C : jx_Ctx p R s mm args meth c m b n1 D aC)  (hd : decode (jx_mi m).2.1 pc = .ok (.idiv, 1))  (ha : jx_act pc (.idiv, 1, x, y, v) ls st h = some (.inl (pc', ls', st', h'))) (kk : jx_K p l e R s mm args below meth c Q k0 z0 m b n1 D aC pc' ls' st' h') : jx_K p l e R s mm args below meth c Q k0 z0 m b n1 D aC pc ls st h := by
  simp only [jx_act] at ha
  split at ha
  · split at ha
    · cases ha
    · rename_i hne
      simp only [jx_go, Option.some.injEq, Sum.inl.injEq, Prod.mk.injEq] at ha
      obtain ⟨rfl, rfl, rfl, rfl⟩ := ha
      exact fun arr H locs hL hR hS => lv_idiv C.1 C.2.1 hd hne (kk arr H locs hL hR hS)
  · cases ha
theorem jx_s_irem (C : jx_Ctx p R s mm args meth c m b n1 D aC)  (hd : decode (jx_mi m).2.1 pc = .ok (.irem, 1))  (ha : jx_act pc (.irem, 1, x, y, v) ls st h = some (.inl (pc', ls', st', h'))) (kk : jx_K p l e R s mm args below meth c Q k0 z0 m b n1 D aC pc' ls' st' h') : jx_K p l e R s mm args below meth c Q k0 z0 m b n1 D aC pc ls st h := by
  simp only [jx_act] at ha
  split at ha
  · split at ha
    · cases ha
    · rename_i hne
      simp only [jx_go, Option.some.injEq, Sum.inl.injEq, Prod.mk.injEq] at ha
      obtain ⟨rfl, rfl, rfl, rfl⟩ := ha
      exact fun arr H locs hL hR hS => lv_irem C.1 C.2.1 hd hne (kk arr H locs hL hR hS)
  · cases ha
theorem jx_s_ldiv (C : jx_Ctx p R s mm args meth c m b n1 D aC)  (hd : decode (jx_mi m).2.1 pc = .ok (.ldiv, 1))  (ha : jx_act pc (.ldiv, 1, x, y, v) ls st h = some (.inl (pc', ls', st', h'))) (kk : jx_K p l e R s mm args below meth c Q k0 z0 m b n1 D aC pc' ls' st' h') : jx_K p l e R s mm args below meth c Q k0 z0 m b n1 D aC pc ls st h := by
  simp only [jx_act] at ha
  split at ha
  · split at ha
    · cases ha
    · rename_i hne
      simp only [jx_go, Option.some.injEq, Sum.inl.injEq, Prod.mk.injEq] at ha
      obtain ⟨rfl, rfl, rfl, rfl⟩ := ha
      exact fun arr H locs hL hR hS => lv_ldiv C.1 C.2.1 hd hne (kk arr H locs hL hR hS)
  · cases ha
theorem jx_s_iconst (C : jx_Ctx p R s mm args meth c m b n1 D aC) {n : Int} (hd : decode (jx_mi m).2.1 pc = .ok (.iconst n, 1)) (hv : v = .int (Int32.ofInt n)) (ha : jx_act pc (.iconst n, 1, x, y, v) ls st h = some (.inl (pc', ls', st', h'))) (kk : jx_K p l e R s mm args below meth c Q k0 z0 m b n1 D aC pc' ls' st' h') : jx_K p l e R s mm args below meth c Q k0 z0 m b n1 D aC pc ls st h := by
  subst hv
  simp only [jx_act] at ha
  simp only [jx_go, Option.some.injEq, Sum.inl.injEq, Prod.mk.injEq] at ha
  obtain ⟨rfl, rfl, rfl, rfl⟩ := ha
  exact fun arr H locs hL hR hS => lv_iconst C.1 C.2.1 hd rfl (kk arr H locs hL hR hS)
theorem jx_s_bipush (C : jx_Ctx p R s mm args meth c m b n1 D aC) {n : Int} (hd : decode (jx_mi m).2.1 pc = .ok (.bipush n, 2)) (hv : v = .int (Int8.ofInt n).toInt32) (ha : jx_act pc (.bipush n, 2, x, y, v) ls st h = some (.inl (pc', ls', st', h'))) (kk : jx_K p l e R s mm args below meth c Q k0 z0 m b n1 D aC pc' ls' st' h') : jx_K p l e R s mm args below meth c Q k0 z0 m b n1 D aC pc ls st h := by
  subst hv
  simp only [jx_act] at ha
  simp only [jx_go, Option.some.injEq, Sum.inl.injEq, Prod.mk.injEq] at ha
  obtain ⟨rfl, rfl, rfl, rfl⟩ := ha
  exact fun arr H locs hL hR hS => lv_bipush C.1 C.2.1 hd rfl (kk arr H locs hL hR hS)
theorem jx_s_sipush (C : jx_Ctx p R s mm args meth c m b n1 D aC) {n : Int} (hd : decode (jx_mi m).2.1 pc = .ok (.sipush n, 3)) (hv : v = .int (Int16.ofInt n).toInt32) (ha : jx_act pc (.sipush n, 3, x, y, v) ls st h = some (.inl (pc', ls', st', h'))) (kk : jx_K p l e R s mm args below meth c Q k0 z0 m b n1 D aC pc' ls' st' h') : jx_K p l e R s mm args below meth c Q k0 z0 m b n1 D aC pc ls st h := by
  subst hv
  simp only [jx_act] at ha
  simp only [jx_go, Option.some.injEq, Sum.inl.injEq, Prod.mk.injEq] at ha
  obtain ⟨rfl, rfl, rfl, rfl⟩ := ha
  exact fun arr H locs hL hR hS => lv_sipush C.1 C.2.1 hd rfl (kk arr H locs hL hR hS)
theorem jx_s_lconst (C : jx_Ctx p R s mm args meth c m b n1 D aC) {n : Fin 2} (hd : decode (jx_mi m).2.1 pc = .ok (.lconst n, 1)) (hv : v = .long (Int64.ofNat n.val)) (ha : jx_act pc (.lconst n, 1, x, y, v) ls st h = some (.inl (pc', ls', st', h'))) (kk : jx_K p l e R s mm args below meth c Q k0 z0 m b n1 D aC pc' ls' st' h') : jx_K p l e R s mm args below meth c Q k0 z0 m b n1 D aC pc ls st h := by
  subst hv
  simp only [jx_act] at ha
  simp only [jx_go, Option.some.injEq, Sum.inl.injEq, Prod.mk.injEq] at ha
  obtain ⟨rfl, rfl, rfl, rfl⟩ := ha
  exact fun arr H locs hL hR hS => lv_lconst C.1 C.2.1 hd rfl (kk arr H locs hL hR hS)
theorem jx_s_aconst_null (C : jx_Ctx p R s mm args meth c m b n1 D aC)  (hd : decode (jx_mi m).2.1 pc = .ok (.aconst_null, 1))  (ha : jx_act pc (.aconst_null, 1, x, y, v) ls st h = some (.inl (pc', ls', st', h'))) (kk : jx_K p l e R s mm args below meth c Q k0 z0 m b n1 D aC pc' ls' st' h') : jx_K p l e R s mm args below meth c Q k0 z0 m b n1 D aC pc ls st h := by
  simp only [jx_act] at ha
  simp only [jx_go, Option.some.injEq, Sum.inl.injEq, Prod.mk.injEq] at ha
  obtain ⟨rfl, rfl, rfl, rfl⟩ := ha
  exact fun arr H locs hL hR hS => lv_null C.1 C.2.1 hd (kk arr H locs hL hR hS)
theorem jx_s_ldc (C : jx_Ctx p R s mm args meth c m b n1 D aC) {n : Nat} (hd : decode (jx_mi m).2.1 pc = .ok (.ldc n, 2)) (hw : ∀ u, v = .int u → Cond.constant (jx_cn (jx_mi m).2.2.2.2.1) n u ∈ jx_big) (ha : jx_act pc (.ldc n, 2, x, y, v) ls st h = some (.inl (pc', ls', st', h'))) (kk : jx_K p l e R s mm args below meth c Q k0 z0 m b n1 D aC pc' ls' st' h') : jx_K p l e R s mm args below meth c Q k0 z0 m b n1 D aC pc ls st h := by
  simp only [jx_act] at ha
  split at ha
  · simp only [jx_go, Option.some.injEq, Sum.inl.injEq, Prod.mk.injEq] at ha
    obtain ⟨rfl, rfl, rfl, rfl⟩ := ha
    exact fun arr H locs hL hR hS => lv_ldc C.1 C.2.1 C.2.2.2.1 (C.2.2.2.2.1 _ (hw _ rfl)) hd (kk arr H locs hL hR hS)
  · cases ha
theorem jx_s_ldc_w (C : jx_Ctx p R s mm args meth c m b n1 D aC) {n : Nat} (hd : decode (jx_mi m).2.1 pc = .ok (.ldc_w n, 3)) (hw : ∀ u, v = .int u → Cond.constant (jx_cn (jx_mi m).2.2.2.2.1) n u ∈ jx_big) (ha : jx_act pc (.ldc_w n, 3, x, y, v) ls st h = some (.inl (pc', ls', st', h'))) (kk : jx_K p l e R s mm args below meth c Q k0 z0 m b n1 D aC pc' ls' st' h') : jx_K p l e R s mm args below meth c Q k0 z0 m b n1 D aC pc ls st h := by
  simp only [jx_act] at ha
  split at ha
  · simp only [jx_go, Option.some.injEq, Sum.inl.injEq, Prod.mk.injEq] at ha
    obtain ⟨rfl, rfl, rfl, rfl⟩ := ha
    exact fun arr H locs hL hR hS => lv_ldcw C.1 C.2.1 C.2.2.2.1 (C.2.2.2.2.1 _ (hw _ rfl)) hd (kk arr H locs hL hR hS)
  · cases ha
theorem jx_s_ldc2_w (C : jx_Ctx p R s mm args meth c m b n1 D aC) {n : Nat} (hd : decode (jx_mi m).2.1 pc = .ok (.ldc2_w n, 3)) (hw : ∀ u, v = .long u → Cond.constantLong (jx_cn (jx_mi m).2.2.2.2.1) n u ∈ jx_big) (ha : jx_act pc (.ldc2_w n, 3, x, y, v) ls st h = some (.inl (pc', ls', st', h'))) (kk : jx_K p l e R s mm args below meth c Q k0 z0 m b n1 D aC pc' ls' st' h') : jx_K p l e R s mm args below meth c Q k0 z0 m b n1 D aC pc ls st h := by
  simp only [jx_act] at ha
  split at ha
  · simp only [jx_go, Option.some.injEq, Sum.inl.injEq, Prod.mk.injEq] at ha
    obtain ⟨rfl, rfl, rfl, rfl⟩ := ha
    exact fun arr H locs hL hR hS => lv_ldc2 C.1 C.2.1 C.2.2.2.1 (C.2.2.2.2.1 _ (hw _ rfl)) hd (kk arr H locs hL hR hS)
  · cases ha
theorem jx_s_iload (C : jx_Ctx p R s mm args meth c m b n1 D aC) {n : Nat} (hd : decode (jx_mi m).2.1 pc = .ok (.iload n, 2)) (hx : n = x) (ha : jx_act pc (.iload n, 2, x, y, v) ls st h = some (.inl (pc', ls', st', h'))) (kk : jx_K p l e R s mm args below meth c Q k0 z0 m b n1 D aC pc' ls' st' h') : jx_K p l e R s mm args below meth c Q k0 z0 m b n1 D aC pc ls st h := by
  subst hx
  simp only [jx_act] at ha
  split at ha
  · rename_i hl
    simp only [jx_go, Option.some.injEq, Sum.inl.injEq, Prod.mk.injEq] at ha
    obtain ⟨rfl, rfl, rfl, rfl⟩ := ha
    exact fun arr H locs hL hR hS => lv_iload C.1 C.2.1 hd (hL.2.2.2 _ _ hl (fun r q => by cases q)) (kk arr H locs hL hR hS)
  · cases ha
theorem jx_s_iload_n (C : jx_Ctx p R s mm args meth c m b n1 D aC) {n : Fin 4} (hd : decode (jx_mi m).2.1 pc = .ok (.iload_n n, 1)) (hx : n.val = x) (ha : jx_act pc (.iload_n n, 1, x, y, v) ls st h = some (.inl (pc', ls', st', h'))) (kk : jx_K p l e R s mm args below meth c Q k0 z0 m b n1 D aC pc' ls' st' h') : jx_K p l e R s mm args below meth c Q k0 z0 m b n1 D aC pc ls st h := by
  subst hx
  simp only [jx_act] at ha
  split at ha
  · rename_i hl
    simp only [jx_go, Option.some.injEq, Sum.inl.injEq, Prod.mk.injEq] at ha
    obtain ⟨rfl, rfl, rfl, rfl⟩ := ha
    exact fun arr H locs hL hR hS => lv_iload_n C.1 C.2.1 hd rfl (hL.2.2.2 _ _ hl (fun r q => by cases q)) (kk arr H locs hL hR hS)
  · cases ha
theorem jx_s_lload (C : jx_Ctx p R s mm args meth c m b n1 D aC) {n : Nat} (hd : decode (jx_mi m).2.1 pc = .ok (.lload n, 2)) (hx : n = x) (ha : jx_act pc (.lload n, 2, x, y, v) ls st h = some (.inl (pc', ls', st', h'))) (kk : jx_K p l e R s mm args below meth c Q k0 z0 m b n1 D aC pc' ls' st' h') : jx_K p l e R s mm args below meth c Q k0 z0 m b n1 D aC pc ls st h := by
  subst hx
  simp only [jx_act] at ha
  split at ha
  · rename_i hl
    simp only [jx_go, Option.some.injEq, Sum.inl.injEq, Prod.mk.injEq] at ha
    obtain ⟨rfl, rfl, rfl, rfl⟩ := ha
    exact fun arr H locs hL hR hS => lv_lload C.1 C.2.1 hd (hL.2.2.2 _ _ hl (fun r q => by cases q)) (kk arr H locs hL hR hS)
  · cases ha
theorem jx_s_lload_n (C : jx_Ctx p R s mm args meth c m b n1 D aC) {n : Fin 4} (hd : decode (jx_mi m).2.1 pc = .ok (.lload_n n, 1)) (hx : n.val = x) (ha : jx_act pc (.lload_n n, 1, x, y, v) ls st h = some (.inl (pc', ls', st', h'))) (kk : jx_K p l e R s mm args below meth c Q k0 z0 m b n1 D aC pc' ls' st' h') : jx_K p l e R s mm args below meth c Q k0 z0 m b n1 D aC pc ls st h := by
  subst hx
  simp only [jx_act] at ha
  split at ha
  · rename_i hl
    simp only [jx_go, Option.some.injEq, Sum.inl.injEq, Prod.mk.injEq] at ha
    obtain ⟨rfl, rfl, rfl, rfl⟩ := ha
    exact fun arr H locs hL hR hS => lv_lload_n C.1 C.2.1 hd rfl (hL.2.2.2 _ _ hl (fun r q => by cases q)) (kk arr H locs hL hR hS)
  · cases ha
theorem jx_s_aload (C : jx_Ctx p R s mm args meth c m b n1 D aC) {n : Nat} (hd : decode (jx_mi m).2.1 pc = .ok (.aload n, 2)) (hx : n = x) (ha : jx_act pc (.aload n, 2, x, y, v) ls st h = some (.inl (pc', ls', st', h'))) (kk : jx_K p l e R s mm args below meth c Q k0 z0 m b n1 D aC pc' ls' st' h') : jx_K p l e R s mm args below meth c Q k0 z0 m b n1 D aC pc ls st h := by
  subst hx
  simp only [jx_act] at ha
  split at ha
  · rename_i hl
    simp only [jx_go, Option.some.injEq, Sum.inl.injEq, Prod.mk.injEq] at ha
    obtain ⟨rfl, rfl, rfl, rfl⟩ := ha
    exact fun arr H locs hL hR hS => lv_aload C.1 C.2.1 hd (hL.2.2.2 _ _ hl (fun r q => by cases q)) (kk arr H locs hL hR hS)
  · rename_i hl
    simp only [jx_go, Option.some.injEq, Sum.inl.injEq, Prod.mk.injEq] at ha
    obtain ⟨rfl, rfl, rfl, rfl⟩ := ha
    exact fun arr H locs hL hR hS => lv_aloadN C.1 C.2.1 hd (hL.2.2.2 _ _ hl (fun r q => by cases q)) (kk arr H locs hL hR hS)
  · cases ha
theorem jx_s_aload_n (C : jx_Ctx p R s mm args meth c m b n1 D aC) {n : Fin 4} (hd : decode (jx_mi m).2.1 pc = .ok (.aload_n n, 1)) (hx : n.val = x) (ha : jx_act pc (.aload_n n, 1, x, y, v) ls st h = some (.inl (pc', ls', st', h'))) (kk : jx_K p l e R s mm args below meth c Q k0 z0 m b n1 D aC pc' ls' st' h') : jx_K p l e R s mm args below meth c Q k0 z0 m b n1 D aC pc ls st h := by
  subst hx
  simp only [jx_act] at ha
  split at ha
  · rename_i hl
    simp only [jx_go, Option.some.injEq, Sum.inl.injEq, Prod.mk.injEq] at ha
    obtain ⟨rfl, rfl, rfl, rfl⟩ := ha
    exact fun arr H locs hL hR hS => lv_aload_n C.1 C.2.1 hd rfl (hL.2.2.2 _ _ hl (fun r q => by cases q)) (kk arr H locs hL hR hS)
  · rename_i hl
    simp only [jx_go, Option.some.injEq, Sum.inl.injEq, Prod.mk.injEq] at ha
    obtain ⟨rfl, rfl, rfl, rfl⟩ := ha
    exact fun arr H locs hL hR hS => lv_aload_nN C.1 C.2.1 hd rfl (hL.2.2.2 _ _ hl (fun r q => by cases q)) (kk arr H locs hL hR hS)
  · cases ha
theorem jx_s_istore (C : jx_Ctx p R s mm args meth c m b n1 D aC) {n : Nat} (hd : decode (jx_mi m).2.1 pc = .ok (.istore n, 2)) (hx : n = x) (ha : jx_act pc (.istore n, 2, x, y, v) ls st h = some (.inl (pc', ls', st', h'))) (kk : jx_K p l e R s mm args below meth c Q k0 z0 m b n1 D aC pc' ls' st' h') : jx_K p l e R s mm args below meth c Q k0 z0 m b n1 D aC pc ls st h := by
  subst hx
  simp only [jx_act] at ha
  split at ha
  · split at ha
    · rename_i hlt
      simp only [jx_go, Option.some.injEq, Sum.inl.injEq, Prod.mk.injEq] at ha
      obtain ⟨rfl, rfl, rfl, rfl⟩ := ha
      exact fun arr H locs hL hR hS => lv_istore C.1 C.2.1 hd hL.has (by rw [← hL.2.1]; exact hlt) rfl (fun arr' hl => kk arr' H locs (hL.st1 rfl hl) hR hS)
    · cases ha
  · cases ha
theorem jx_s_lstore (C : jx_Ctx p R s mm args meth c m b n1 D aC) {n : Nat} (hd : decode (jx_mi m).2.1 pc = .ok (.lstore n, 2)) (hx : n = x) (ha : jx_act pc (.lstore n, 2, x, y, v) ls st h = some (.inl (pc', ls', st', h'))) (kk : jx_K p l e R s mm args below meth c Q k0 z0 m b n1 D aC pc' ls' st' h') : jx_K p l e R s mm args below meth c Q k0 z0 m b n1 D aC pc ls st h := by
  subst hx
  simp only [jx_act] at ha
  split at ha
  · split at ha
    · rename_i hlt
      simp only [jx_go, Option.some.injEq, Sum.inl.injEq, Prod.mk.injEq] at ha
      obtain ⟨rfl, rfl, rfl, rfl⟩ := ha
      exact fun arr H locs hL hR hS => lv_lstore C.1 C.2.1 hd hL.has (by rw [← hL.2.1]; exact hlt) rfl (fun arr' hl => kk arr' H locs (hL.st2 hl) hR hS)
    · cases ha
  · cases ha
theorem jx_s_astore (C : jx_Ctx p R s mm args meth c m b n1 D aC) {n : Nat} (hd : decode (jx_mi m).2.1 pc = .ok (.astore n, 2)) (hx : n = x) (ha : jx_act pc (.astore n, 2, x, y, v) ls st h = some (.inl (pc', ls', st', h'))) (kk : jx_K p l e R s mm args below meth c Q k0 z0 m b n1 D aC pc' ls' st' h') : jx_K p l e R s mm args below meth c Q k0 z0 m b n1 D aC pc ls st h := by
  subst hx
  simp only [jx_act] at ha
  split at ha
  · split at ha
    · rename_i hlt
      simp only [jx_go, Option.some.injEq, Sum.inl.injEq, Prod.mk.injEq] at ha
      obtain ⟨rfl, rfl, rfl, rfl⟩ := ha
      exact fun arr H locs hL hR hS => lv_astore C.1 C.2.1 hd hL.has (by rw [← hL.2.1]; exact hlt) rfl (fun arr' hl => kk arr' H locs (hL.st1 rfl hl) hR hS)
    · cases ha
  · split at ha
    · rename_i hlt
      simp only [jx_go, Option.some.injEq, Sum.inl.injEq, Prod.mk.injEq] at ha
      obtain ⟨rfl, rfl, rfl, rfl⟩ := ha
      exact fun arr H locs hL hR hS => lv_astoreN C.1 C.2.1 hd hL.has (by rw [← hL.2.1]; exact hlt) rfl (fun arr' hl => kk arr' H locs (hL.st1 rfl hl) hR hS)
    · cases ha
  · cases ha
theorem jx_s_istore_n (C : jx_Ctx p R s mm args meth c m b n1 D aC) {n : Fin 4} (hd : decode (jx_mi m).2.1 pc = .ok (.istore_n n, 1)) (hx : n.val = x) (ha : jx_act pc (.istore_n n, 1, x, y, v) ls st h = some (.inl (pc', ls', st', h'))) (kk : jx_K p l e R s mm args below meth c Q k0 z0 m b n1 D aC pc' ls' st' h') : jx_K p l e R s mm args below meth c Q k0 z0 m b n1 D aC pc ls st h := by
  subst hx
  simp only [jx_act] at ha
  split at ha
  · split at ha
    · rename_i hlt
      simp only [jx_go, Option.some.injEq, Sum.inl.injEq, Prod.mk.injEq] at ha
      obtain ⟨rfl, rfl, rfl, rfl⟩ := ha
      exact fun arr H locs hL hR hS => lv_istore_n C.1 C.2.1 hd rfl hL.has (by rw [← hL.2.1]; exact hlt) rfl (fun arr' hl => kk arr' H locs (hL.st1 rfl hl) hR hS)
    · cases ha
  · cases ha
theorem jx_s_lstore_n (C : jx_Ctx p R s mm args meth c m b n1 D aC) {n : Fin 4} (hd : decode (jx_mi m).2.1 pc = .ok (.lstore_n n, 1)) (hx : n.val = x) (ha : jx_act pc (.lstore_n n, 1, x, y, v) ls st h = some (.inl (pc', ls', st', h'))) (kk : jx_K p l e R s mm args below meth c Q k0 z0 m b n1 D aC pc' ls' st' h') : jx_K p l e R s mm args below meth c Q k0 z0 m b n1 D aC pc ls st h := by
  subst hx
  simp only [jx_act] at ha
  split at ha
  · split at ha
    · rename_i hlt
      simp only [jx_go, Option.some.injEq, Sum.inl.injEq, Prod.mk.injEq] at ha
      obtain ⟨rfl, rfl, rfl, rfl⟩ := ha
      exact fun arr H locs hL hR hS => lv_lstore_n C.1 C.2.1 hd rfl hL.has (by rw [← hL.2.1]; exact hlt) rfl (fun arr' hl => kk arr' H locs (hL.st2 hl) hR hS)
    · cases ha
  · cases ha
theorem jx_s_astore_n (C : jx_Ctx p R s mm args meth c m b n1 D aC) {n : Fin 4} (hd : decode (jx_mi m).2.1 pc = .ok (.astore_n n, 1)) (hx : n.val = x) (ha : jx_act pc (.astore_n n, 1, x, y, v) ls st h = some (.inl (pc', ls', st', h'))) (kk : jx_K p l e R s mm args below meth c Q k0 z0 m b n1 D aC pc' ls' st' h') : jx_K p l e R s mm args below meth c Q k0 z0 m b n1 D aC pc ls st h := by
  subst hx
  simp only [jx_act] at ha
  split at ha
  · split at ha
    · rename_i hlt
      simp only [jx_go, Option.some.injEq, Sum.inl.injEq, Prod.mk.injEq] at ha
      obtain ⟨rfl, rfl, rfl, rfl⟩ := ha
      exact fun arr H locs hL hR hS => lv_astore_n C.1 C.2.1 hd rfl hL.has (by rw [← hL.2.1]; exact hlt) rfl (fun arr' hl => kk arr' H locs (hL.st1 rfl hl) hR hS)
    · cases ha
  · split at ha
    · rename_i hlt
      simp only [jx_go, Option.some.injEq, Sum.inl.injEq, Prod.mk.injEq] at ha
      obtain ⟨rfl, rfl, rfl, rfl⟩ := ha
      exact fun arr H locs hL hR hS => lv_astore_nN C.1 C.2.1 hd rfl hL.has (by rw [← hL.2.1]; exact hlt) rfl (fun arr' hl => kk arr' H locs (hL.st1 rfl hl) hR hS)
    · cases ha
  · cases ha
theorem jx_s_iinc (C : jx_Ctx p R s mm args meth c m b n1 D aC) {n : Nat} {k : Int} (hd : decode (jx_mi m).2.1 pc = .ok (.iinc n k, 3)) (hx : n = x) (hv : v = .int (Int32.ofInt k)) (ha : jx_act pc (.iinc n k, 3, x, y, v) ls st h = some (.inl (pc', ls', st', h'))) (kk : jx_K p l e R s mm args below meth c Q k0 z0 m b n1 D aC pc' ls' st' h') : jx_K p l e R s mm args below meth c Q k0 z0 m b n1 D aC pc ls st h := by
  subst hx
  subst hv
  simp only [jx_act] at ha
  split at ha
  · rename_i a b' hl he
    cases he
    split at ha
    · rename_i hlt
      simp only [jx_go, Option.some.injEq, Sum.inl.injEq, Prod.mk.injEq] at ha
      obtain ⟨rfl, rfl, rfl, rfl⟩ := ha
      refine fun arr H locs hL hR hS => ?_
      obtain ⟨j, hj⟩ := List.getElem?_of_mem (jx_lv_mem.mpr ⟨_, hl, (fun r q => by cases q), rfl⟩ : (n, jx_cv b n1 (.int a)) ∈ jx_lv b n1 ls)
      exact lv_iinc C.1 C.2.1 hd hL.has hj rfl (by rw [← hL.2.1]; exact hlt) rfl (fun arr' hl => kk arr' H locs (hL.st1 rfl hl) hR hS)
    · cases ha
  · cases ha
theorem jx_s_dup (C : jx_Ctx p R s mm args meth c m b n1 D aC)  (hd : decode (jx_mi m).2.1 pc = .ok (.dup, 1))  (ha : jx_act pc (.dup, 1, x, y, v) ls st h = some (.inl (pc', ls', st', h'))) (kk : jx_K p l e R s mm args below meth c Q k0 z0 m b n1 D aC pc' ls' st' h') : jx_K p l e R s mm args below meth c Q k0 z0 m b n1 D aC pc ls st h := by
  simp only [jx_act] at ha
  split at ha
  · split at ha
    · rename_i hc
      simp only [jx_go, Option.some.injEq, Sum.inl.injEq, Prod.mk.injEq] at ha
      obtain ⟨rfl, rfl, rfl, rfl⟩ := ha
      exact fun arr H locs hL hR hS => lv_dup C.1 C.2.1 hd (by rw [jx_cv_cat]; exact hc) (kk arr H locs hL hR hS)
    · cases ha
  · cases ha
theorem jx_s_pop (C : jx_Ctx p R s mm args meth c m b n1 D aC)  (hd : decode (jx_mi m).2.1 pc = .ok (.pop, 1))  (ha : jx_act pc (.pop, 1, x, y, v) ls st h = some (.inl (pc', ls', st', h'))) (kk : jx_K p l e R s mm args below meth c Q k0 z0 m b n1 D aC pc' ls' st' h') : jx_K p l e R s mm args below meth c Q k0 z0 m b n1 D aC pc ls st h := by
  simp only [jx_act] at ha
  split at ha
  · split at ha
    · rename_i hc
      simp only [jx_go, Option.some.injEq, Sum.inl.injEq, Prod.mk.injEq] at ha
      obtain ⟨rfl, rfl, rfl, rfl⟩ := ha
      exact fun arr H locs hL hR hS => lv_pop C.1 C.2.1 hd (by rw [jx_cv_cat]; exact hc) (kk arr H locs hL hR hS)
    · cases ha
  · cases ha
theorem jx_s_dup2 (C : jx_Ctx p R s mm args meth c m b n1 D aC)  (hd : decode (jx_mi m).2.1 pc = .ok (.dup2, 1))  (ha : jx_act pc (.dup2, 1, x, y, v) ls st h = some (.inl (pc', ls', st', h'))) (kk : jx_K p l e R s mm args below meth c Q k0 z0 m b n1 D aC pc' ls' st' h') : jx_K p l e R s mm args below meth c Q k0 z0 m b n1 D aC pc ls st h := by
  simp only [jx_act] at ha
  split at ha
  · split at ha
    · rename_i hc
      simp only [jx_go, Option.some.injEq, Sum.inl.injEq, Prod.mk.injEq] at ha
      obtain ⟨rfl, rfl, rfl, rfl⟩ := ha
      exact fun arr H locs hL hR hS => lv_dup2_11 C.1 C.2.1 hd (by rw [jx_cv_cat]; exact hc.1) (by rw [jx_cv_cat]; exact hc.2) (kk arr H locs hL hR hS)
    · cases ha
  · cases ha
theorem jx_s_goto (C : jx_Ctx p R s mm args meth c m b n1 D aC) {o : Int} (hd : decode (jx_mi m).2.1 pc = .ok (.goto o, 3)) (hx : (pc : Int) + o = (x : Int)) (ha : jx_act pc (.goto o, 3, x, y, v) ls st h = some (.inl (pc', ls', st', h'))) (kk : jx_K p l e R s mm args below meth c Q k0 z0 m b n1 D aC pc' ls' st' h') : jx_K p l e R s mm args below meth c Q k0 z0 m b n1 D aC pc ls st h := by
  simp only [jx_act] at ha
  simp only [jx_go, Option.some.injEq, Sum.inl.injEq, Prod.mk.injEq] at ha
  obtain ⟨rfl, rfl, rfl, rfl⟩ := ha
  exact fun arr H locs hL hR hS => lv_goto C.1 C.2.1 hd hx (kk arr H locs hL hR hS)
theorem jx_s_ifCond (C : jx_Ctx p R s mm args meth c m b n1 D aC) {cc : ClassFile.Cond} {o : Int} (hd : decode (jx_mi m).2.1 pc = .ok (.ifCond cc o, 3)) (hx : (pc : Int) + o = (x : Int)) (ha : jx_act pc (.ifCond cc o, 3, x, y, v) ls st h = some (.inl (pc', ls', st', h'))) (kk : jx_K p l e R s mm args below meth c Q k0 z0 m b n1 D aC pc' ls' st' h') : jx_K p l e R s mm args below meth c Q k0 z0 m b n1 D aC pc ls st h := by
  simp only [jx_act] at ha
  split at ha
  · cases cc
    case eq =>
      simp only [jx_br] at ha
      split at ha
      · rename_i hc
        simp only [jx_go, Option.some.injEq, Sum.inl.injEq, Prod.mk.injEq] at ha
        obtain ⟨rfl, rfl, rfl, rfl⟩ := ha
        exact fun arr H locs hL hR hS => lv_if_eq C.1 C.2.1 hd hx (fun _ => kk arr H locs hL hR hS) (fun q => absurd hc q)
      · rename_i hc
        simp only [jx_go, Option.some.injEq, Sum.inl.injEq, Prod.mk.injEq] at ha
        obtain ⟨rfl, rfl, rfl, rfl⟩ := ha
        exact fun arr H locs hL hR hS => lv_if_eq C.1 C.2.1 hd hx (fun q => absurd q hc) (fun _ => kk arr H locs hL hR hS)
    case ne =>
      simp only [jx_br] at ha
      split at ha
      · rename_i hc
        simp only [jx_go, Option.some.injEq, Sum.inl.injEq, Prod.mk.injEq] at ha
        obtain ⟨rfl, rfl, rfl, rfl⟩ := ha
        exact fun arr H locs hL hR hS => lv_if_ne C.1 C.2.1 hd hx (fun q => absurd hc q) (fun _ => kk arr H locs hL hR hS)
      · rename_i hc
        simp only [jx_go, Option.some.injEq, Sum.inl.injEq, Prod.mk.injEq] at ha
        obtain ⟨rfl, rfl, rfl, rfl⟩ := ha
        exact fun arr H locs hL hR hS => lv_if_ne C.1 C.2.1 hd hx (fun _ => kk arr H locs hL hR hS) (fun q => absurd q hc)
    case lt =>
      simp only [jx_br] at ha
      split at ha
      · rename_i hc
        simp only [jx_go, Option.some.injEq, Sum.inl.injEq, Prod.mk.injEq] at ha
        obtain ⟨rfl, rfl, rfl, rfl⟩ := ha
        exact fun arr H locs hL hR hS => lv_if_lt C.1 C.2.1 hd hx (fun _ => kk arr H locs hL hR hS) (fun q => absurd hc q)
      · rename_i hc
        simp only [jx_go, Option.some.injEq, Sum.inl.injEq, Prod.mk.injEq] at ha
        obtain ⟨rfl, rfl, rfl, rfl⟩ := ha
        exact fun arr H locs hL hR hS => lv_if_lt C.1 C.2.1 hd hx (fun q => absurd q hc) (fun _ => kk arr H locs hL hR hS)
    case ge =>
      simp only [jx_br] at ha
      split at ha
      · rename_i hc
        simp only [jx_go, Option.some.injEq, Sum.inl.injEq, Prod.mk.injEq] at ha
        obtain ⟨rfl, rfl, rfl, rfl⟩ := ha
        exact fun arr H locs hL hR hS => lv_if_ge C.1 C.2.1 hd hx (fun _ => kk arr H locs hL hR hS) (fun q => absurd hc q)
      · rename_i hc
        simp only [jx_go, Option.some.injEq, Sum.inl.injEq, Prod.mk.injEq] at ha
        obtain ⟨rfl, rfl, rfl, rfl⟩ := ha
        exact fun arr H locs hL hR hS => lv_if_ge C.1 C.2.1 hd hx (fun q => absurd q hc) (fun _ => kk arr H locs hL hR hS)
    case gt =>
      simp only [jx_br] at ha
      split at ha
      · rename_i hc
        simp only [jx_go, Option.some.injEq, Sum.inl.injEq, Prod.mk.injEq] at ha
        obtain ⟨rfl, rfl, rfl, rfl⟩ := ha
        exact fun arr H locs hL hR hS => lv_if_gt C.1 C.2.1 hd hx (fun _ => kk arr H locs hL hR hS) (fun q => absurd hc q)
      · rename_i hc
        simp only [jx_go, Option.some.injEq, Sum.inl.injEq, Prod.mk.injEq] at ha
        obtain ⟨rfl, rfl, rfl, rfl⟩ := ha
        exact fun arr H locs hL hR hS => lv_if_gt C.1 C.2.1 hd hx (fun q => absurd q hc) (fun _ => kk arr H locs hL hR hS)
    case le =>
      simp only [jx_br] at ha
      split at ha
      · rename_i hc
        simp only [jx_go, Option.some.injEq, Sum.inl.injEq, Prod.mk.injEq] at ha
        obtain ⟨rfl, rfl, rfl, rfl⟩ := ha
        exact fun arr H locs hL hR hS => lv_if_le C.1 C.2.1 hd hx (fun _ => kk arr H locs hL hR hS) (fun q => absurd hc q)
      · rename_i hc
        simp only [jx_go, Option.some.injEq, Sum.inl.injEq, Prod.mk.injEq] at ha
        obtain ⟨rfl, rfl, rfl, rfl⟩ := ha
        exact fun arr H locs hL hR hS => lv_if_le C.1 C.2.1 hd hx (fun q => absurd q hc) (fun _ => kk arr H locs hL hR hS)
  · cases ha
theorem jx_s_if_icmp (C : jx_Ctx p R s mm args meth c m b n1 D aC) {cc : ClassFile.Cond} {o : Int} (hd : decode (jx_mi m).2.1 pc = .ok (.if_icmp cc o, 3)) (hx : (pc : Int) + o = (x : Int)) (ha : jx_act pc (.if_icmp cc o, 3, x, y, v) ls st h = some (.inl (pc', ls', st', h'))) (kk : jx_K p l e R s mm args below meth c Q k0 z0 m b n1 D aC pc' ls' st' h') : jx_K p l e R s mm args below meth c Q k0 z0 m b n1 D aC pc ls st h := by
  simp only [jx_act] at ha
  split at ha
  · cases cc
    case eq =>
      simp only [jx_br] at ha
      split at ha
      · rename_i hc
        simp only [jx_go, Option.some.injEq, Sum.inl.injEq, Prod.mk.injEq] at ha
        obtain ⟨rfl, rfl, rfl, rfl⟩ := ha
        exact fun arr H locs hL hR hS => lv_icmp_eq C.1 C.2.1 hd hx (fun _ => kk arr H locs hL hR hS) (fun q => absurd hc q)
      · rename_i hc
        simp only [jx_go, Option.some.injEq, Sum.inl.injEq, Prod.mk.injEq] at ha
        obtain ⟨rfl, rfl, rfl, rfl⟩ := ha
        exact fun arr H locs hL hR hS => lv_icmp_eq C.1 C.2.1 hd hx (fun q => absurd q hc) (fun _ => kk arr H locs hL hR hS)
    case ne =>
      simp only [jx_br] at ha
      split at ha
      · rename_i hc
        simp only [jx_go, Option.some.injEq, Sum.inl.injEq, Prod.mk.injEq] at ha
        obtain ⟨rfl, rfl, rfl, rfl⟩ := ha
        exact fun arr H locs hL hR hS => lv_icmp_ne C.1 C.2.1 hd hx (fun q => absurd hc q) (fun _ => kk arr H locs hL hR hS)
      · rename_i hc
        simp only [jx_go, Option.some.injEq, Sum.inl.injEq, Prod.mk.injEq] at ha
        obtain ⟨rfl, rfl, rfl, rfl⟩ := ha
        exact fun arr H locs hL hR hS => lv_icmp_ne C.1 C.2.1 hd hx (fun _ => kk arr H locs hL hR hS) (fun q => absurd q hc)
    case lt =>
      simp only [jx_br] at ha
      split at ha
      · rename_i hc
        simp only [jx_go, Option.some.injEq, Sum.inl.injEq, Prod.mk.injEq] at ha
        obtain ⟨rfl, rfl, rfl, rfl⟩ := ha
        exact fun arr H locs hL hR hS => lv_icmp_lt C.1 C.2.1 hd hx (fun _ => kk arr H locs hL hR hS) (fun q => absurd hc q)
      · rename_i hc
        simp only [jx_go, Option.some.injEq, Sum.inl.injEq, Prod.mk.injEq] at ha
        obtain ⟨rfl, rfl, rfl, rfl⟩ := ha
        exact fun arr H locs hL hR hS => lv_icmp_lt C.1 C.2.1 hd hx (fun q => absurd q hc) (fun _ => kk arr H locs hL hR hS)
    case ge =>
      simp only [jx_br] at ha
      split at ha
      · rename_i hc
        simp only [jx_go, Option.some.injEq, Sum.inl.injEq, Prod.mk.injEq] at ha
        obtain ⟨rfl, rfl, rfl, rfl⟩ := ha
        exact fun arr H locs hL hR hS => lv_icmp_ge C.1 C.2.1 hd hx (fun _ => kk arr H locs hL hR hS) (fun q => absurd hc q)
      · rename_i hc
        simp only [jx_go, Option.some.injEq, Sum.inl.injEq, Prod.mk.injEq] at ha
        obtain ⟨rfl, rfl, rfl, rfl⟩ := ha
        exact fun arr H locs hL hR hS => lv_icmp_ge C.1 C.2.1 hd hx (fun q => absurd q hc) (fun _ => kk arr H locs hL hR hS)
    case gt =>
      simp only [jx_br] at ha
      split at ha
      · rename_i hc
        simp only [jx_go, Option.some.injEq, Sum.inl.injEq, Prod.mk.injEq] at ha
        obtain ⟨rfl, rfl, rfl, rfl⟩ := ha
        exact fun arr H locs hL hR hS => lv_icmp_gt C.1 C.2.1 hd hx (fun _ => kk arr H locs hL hR hS) (fun q => absurd hc q)
      · rename_i hc
        simp only [jx_go, Option.some.injEq, Sum.inl.injEq, Prod.mk.injEq] at ha
        obtain ⟨rfl, rfl, rfl, rfl⟩ := ha
        exact fun arr H locs hL hR hS => lv_icmp_gt C.1 C.2.1 hd hx (fun q => absurd q hc) (fun _ => kk arr H locs hL hR hS)
    case le =>
      simp only [jx_br] at ha
      split at ha
      · rename_i hc
        simp only [jx_go, Option.some.injEq, Sum.inl.injEq, Prod.mk.injEq] at ha
        obtain ⟨rfl, rfl, rfl, rfl⟩ := ha
        exact fun arr H locs hL hR hS => lv_icmp_le C.1 C.2.1 hd hx (fun _ => kk arr H locs hL hR hS) (fun q => absurd hc q)
      · rename_i hc
        simp only [jx_go, Option.some.injEq, Sum.inl.injEq, Prod.mk.injEq] at ha
        obtain ⟨rfl, rfl, rfl, rfl⟩ := ha
        exact fun arr H locs hL hR hS => lv_icmp_le C.1 C.2.1 hd hx (fun q => absurd q hc) (fun _ => kk arr H locs hL hR hS)
  · cases ha
theorem jx_s_ifnull (C : jx_Ctx p R s mm args meth c m b n1 D aC) {o : Int} (hd : decode (jx_mi m).2.1 pc = .ok (.ifnull o, 3)) (hx : (pc : Int) + o = (x : Int)) (ha : jx_act pc (.ifnull o, 3, x, y, v) ls st h = some (.inl (pc', ls', st', h'))) (kk : jx_K p l e R s mm args below meth c Q k0 z0 m b n1 D aC pc' ls' st' h') : jx_K p l e R s mm args below meth c Q k0 z0 m b n1 D aC pc ls st h := by
  simp only [jx_act] at ha
  split at ha
  · simp only [jx_go, Option.some.injEq, Sum.inl.injEq, Prod.mk.injEq] at ha
    obtain ⟨rfl, rfl, rfl, rfl⟩ := ha
    exact fun arr H locs hL hR hS => lv_ifnull C.1 C.2.1 hd (kk arr H locs hL hR hS)
  · simp only [jx_go, Option.some.injEq, Sum.inl.injEq, Prod.mk.injEq] at ha
    obtain ⟨rfl, rfl, rfl, rfl⟩ := ha
    exact fun arr H locs hL hR hS => lv_ifnullN C.1 C.2.1 hd hx (kk arr H locs hL hR hS)
  · cases ha
theorem jx_s_ifnonnull (C : jx_Ctx p R s mm args meth c m b n1 D aC) {o : Int} (hd : decode (jx_mi m).2.1 pc = .ok (.ifnonnull o, 3)) (hx : (pc : Int) + o = (x : Int)) (ha : jx_act pc (.ifnonnull o, 3, x, y, v) ls st h = some (.inl (pc', ls', st', h'))) (kk : jx_K p l e R s mm args below meth c Q k0 z0 m b n1 D aC pc' ls' st' h') : jx_K p l e R s mm args below meth c Q k0 z0 m b n1 D aC pc ls st h := by
  simp only [jx_act] at ha
  split at ha
  · simp only [jx_go, Option.some.injEq, Sum.inl.injEq, Prod.mk.injEq] at ha
    obtain ⟨rfl, rfl, rfl, rfl⟩ := ha
    exact fun arr H locs hL hR hS => lv_ifnonnull C.1 C.2.1 hd hx (kk arr H locs hL hR hS)
  · simp only [jx_go, Option.some.injEq, Sum.inl.injEq, Prod.mk.injEq] at ha
    obtain ⟨rfl, rfl, rfl, rfl⟩ := ha
    exact fun arr H locs hL hR hS => lv_ifnonnullN C.1 C.2.1 hd (kk arr H locs hL hR hS)
  · cases ha
theorem jx_s_tableswitch (C : jx_Ctx p R s mm args meth c m b n1 D aC) {d lo hi : Int} {offs : Array Int} {len : Nat} (hd : decode (jx_mi m).2.1 pc = .ok (.tableswitch d lo hi offs, len)) (ha : jx_act pc (.tableswitch d lo hi offs, len, x, y, v) ls st h = some (.inl (pc', ls', st', h'))) (kk : jx_K p l e R s mm args below meth c Q k0 z0 m b n1 D aC pc' ls' st' h') : jx_K p l e R s mm args below meth c Q k0 z0 m b n1 D aC pc ls st h := by
  simp only [jx_act] at ha
  split at ha
  · split at ha
    · rename_i hc
      split at ha
      · rename_i hp
        simp only [jx_go, Option.some.injEq, Sum.inl.injEq, Prod.mk.injEq] at ha
        obtain ⟨rfl, rfl, rfl, rfl⟩ := ha
        exact fun arr H locs hL hR hS => lv_tableOut C.1 C.2.1 hd hc (Int.toNat_of_nonneg hp).symm (kk arr H locs hL hR hS)
      · cases ha
    · rename_i hc
      split at ha
      · rename_i o ho
        split at ha
        · rename_i hp
          simp only [jx_go, Option.some.injEq, Sum.inl.injEq, Prod.mk.injEq] at ha
          obtain ⟨rfl, rfl, rfl, rfl⟩ := ha
          exact fun arr H locs hL hR hS => lv_tableIn C.1 C.2.1 hd (fun q => hc (Or.inl q)) (fun q => hc (Or.inr q)) ho (Int.toNat_of_nonneg hp).symm (kk arr H locs hL hR hS)
        · cases ha
      · cases ha
  · cases ha
end JXS
