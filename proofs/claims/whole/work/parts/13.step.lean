/-! SOUNDNESS, sixth: every step of the interpreter is the machine's -/
theorem jx_pF_get {o k x y : Nat} (h : (jx_pF.any fun q => Nat.beq q.1 o && Nat.beq q.2.1 k && Nat.beq q.2.2.1 x && Nat.beq q.2.2.2.1 y) = true) : ∃ cx, jx_cl[x]? = some cx ∧ y < cx.2.2 ∧ Cond.fieldLink (jx_cn o) k cx.1 (cx.2.1 y).2.1 (cx.2.1 y).2.2.1 ∈ jx_big := by
  obtain ⟨⟨q1, q2, q3, q4, q5⟩, hq, h1⟩ := List.any_eq_true.mp h
  simp only [Bool.and_eq_true] at h1
  obtain ⟨⟨⟨h1, h2⟩, h3⟩, h4⟩ := h1
  obtain rfl := Nat.eq_of_beq_eq_true h1
  obtain rfl := Nat.eq_of_beq_eq_true h2
  obtain rfl := Nat.eq_of_beq_eq_true h3
  obtain rfl := Nat.eq_of_beq_eq_true h4
  have h5 := jx_all_at jx_fOk_all hq
  unfold jx_fOk at h5
  dsimp only at h5
  split at h5
  · rename_i c hc
    simp only [Bool.and_eq_true] at h5
    exact ⟨c, hc, Nat.le_of_ble_eq_true h5.1, jx_wd_in h5.2⟩
  · cases h5
theorem jx_pC_get {o k : Nat} {v : Value} (h : (jx_pC.any fun q => Nat.beq q.1 o && Nat.beq q.2.1 k && decide (q.2.2.1 = v)) = true) : (∀ u, v = .int u → Cond.constant (jx_cn o) k u ∈ jx_big) ∧ ∀ u, v = .long u → Cond.constantLong (jx_cn o) k u ∈ jx_big := by
  obtain ⟨⟨q1, q2, q3, q4⟩, hq, h1⟩ := List.any_eq_true.mp h
  simp only [Bool.and_eq_true, decide_eq_true_eq] at h1
  obtain ⟨⟨h1, h2⟩, h3⟩ := h1
  obtain rfl := Nat.eq_of_beq_eq_true h1
  obtain rfl := Nat.eq_of_beq_eq_true h2
  subst h3
  have h5 := jx_all_at jx_cOk_all hq
  unfold jx_cOk at h5
  dsimp only at h5
  refine ⟨fun u hu => ?_, fun u hu => ?_⟩
  · subst hu; exact jx_wd_in h5
  · subst hu; exact jx_wd_in h5
theorem jx_pN_get {o k x : Nat} (h : (jx_pN.any fun q => Nat.beq q.1 o && Nat.beq q.2.1 k && Nat.beq q.2.2.1 x) = true) : ∃ cx, jx_cl[x]? = some cx ∧ Cond.classLink (jx_cn o) k cx.1 ∈ jx_big := by
  obtain ⟨⟨q1, q2, q3, q4⟩, hq, h1⟩ := List.any_eq_true.mp h
  simp only [Bool.and_eq_true] at h1
  obtain ⟨⟨h1, h2⟩, h3⟩ := h1
  obtain rfl := Nat.eq_of_beq_eq_true h1
  obtain rfl := Nat.eq_of_beq_eq_true h2
  obtain rfl := Nat.eq_of_beq_eq_true h3
  have h5 := jx_all_at jx_nOk_all hq
  unfold jx_nOk at h5
  dsimp only at h5
  split at h5
  · rename_i c hc
    exact ⟨c, hc, jx_wd_in h5⟩
  · cases h5
theorem jx_pA_get {o k x : Nat} (h : (jx_pA.any fun q => Nat.beq q.1 o && Nat.beq q.2.1 k && Nat.beq q.2.2.1 x) = true) : 4 ≤ x ∧ x < 8 ∧ Cond.classLink (jx_cn o) k (jx_cn (jx_acl.getD x 99)) ∈ jx_big := by
  obtain ⟨⟨q1, q2, q3, q4⟩, hq, h1⟩ := List.any_eq_true.mp h
  simp only [Bool.and_eq_true] at h1
  obtain ⟨⟨h1, h2⟩, h3⟩ := h1
  obtain rfl := Nat.eq_of_beq_eq_true h1
  obtain rfl := Nat.eq_of_beq_eq_true h2
  obtain rfl := Nat.eq_of_beq_eq_true h3
  have h5 := jx_all_at jx_aOk_all hq
  simp only [jx_aOk, Bool.and_eq_true] at h5
  exact ⟨Nat.le_of_ble_eq_true h5.1.1, Nat.le_of_ble_eq_true h5.1.2, jx_wd_in h5.2⟩
theorem jx_pK_get {o k x : Nat} (h : (jx_pK.any fun q => Nat.beq q.1 o && Nat.beq q.2.1 k && Nat.beq q.2.2.1 x) = true) : x < 8 ∧ Cond.classLink (jx_cn o) k (jx_anm.getD x "") ∈ jx_big := by
  obtain ⟨⟨q1, q2, q3, q4⟩, hq, h1⟩ := List.any_eq_true.mp h
  simp only [Bool.and_eq_true] at h1
  obtain ⟨⟨h1, h2⟩, h3⟩ := h1
  obtain rfl := Nat.eq_of_beq_eq_true h1
  obtain rfl := Nat.eq_of_beq_eq_true h2
  obtain rfl := Nat.eq_of_beq_eq_true h3
  have h5 := jx_all_at jx_kOk_all hq
  simp only [jx_kOk, Bool.and_eq_true] at h5
  exact ⟨Nat.le_of_ble_eq_true h5.1, jx_wd_in h5.2⟩
theorem jx_pM_get {o k x y : Nat} (h : (jx_pM.any fun q => Nat.beq q.1 o && Nat.beq q.2.1 k && Nat.beq q.2.2.1 x && Nat.beq q.2.2.2.1 y) = true) : ∃ pos, jx_mOk (o, k, x, y, pos) = true := by
  obtain ⟨⟨q1, q2, q3, q4, q5⟩, hq, h1⟩ := List.any_eq_true.mp h
  simp only [Bool.and_eq_true] at h1
  obtain ⟨⟨⟨h1, h2⟩, h3⟩, h4⟩ := h1
  obtain rfl := Nat.eq_of_beq_eq_true h1
  obtain rfl := Nat.eq_of_beq_eq_true h2
  obtain rfl := Nat.eq_of_beq_eq_true h3
  obtain rfl := Nat.eq_of_beq_eq_true h4
  exact ⟨q5, jx_all_at jx_mOk_all hq⟩
theorem jx_own_name {m : Nat} (h : m < 216) : (jx_mi m).1.cls = jx_cn (jx_mi m).2.2.2.2.1 := by
  have := jx_all_at jx_oOk_all (List.mem_range.mpr h)
  simpa only [jx_oOk, decide_eq_true_eq] using this
section JXD
variable {p : Program} {l : Launch} {e : Env} {R : Room} {s : State} {mm : MethodId} {args : Array Value} {below : List Frame} {meth : Method} {c : Code} {Q : State → Prop} {k0 z0 m b n1 : Nat} {D : va_G} {aC : Nat → ClassId} {pc : Nat} {ls st : List Value} {h : jx_H} {pc' : Nat} {ls' st' : List Value} {h' : jx_H}
theorem jx_d_iadd (C : jx_Ctx p R s mm args meth c m b n1 D aC) (hm : m < 216) (hk0 : k0 ≤ h.1) (hz0 : z0 ≤ h.2.1) (hkR : h'.1 - k0 ≤ R.cells) (hzR : h'.2.1 - z0 ≤ R.slots)  {len x y : Nat} {v : Value} (hd : decode (jx_mi m).2.1 pc = .ok (.iadd, len)) (hln : jx_lenOk (.iadd) len = true) (hro : jx_rowOk m pc (.iadd, len, x, y, v) = true) (ha : jx_act pc (.iadd, len, x, y, v) ls st h = some (.inl (pc', ls', st', h'))) (kk : jx_K p l e R s mm args below meth c Q k0 z0 m b n1 D aC pc' ls' st' h') : jx_K p l e R s mm args below meth c Q k0 z0 m b n1 D aC pc ls st h := by
  obtain rfl := Nat.eq_of_beq_eq_true hln
  exact jx_s_iadd C hd ha kk
theorem jx_d_isub (C : jx_Ctx p R s mm args meth c m b n1 D aC) (hm : m < 216) (hk0 : k0 ≤ h.1) (hz0 : z0 ≤ h.2.1) (hkR : h'.1 - k0 ≤ R.cells) (hzR : h'.2.1 - z0 ≤ R.slots)  {len x y : Nat} {v : Value} (hd : decode (jx_mi m).2.1 pc = .ok (.isub, len)) (hln : jx_lenOk (.isub) len = true) (hro : jx_rowOk m pc (.isub, len, x, y, v) = true) (ha : jx_act pc (.isub, len, x, y, v) ls st h = some (.inl (pc', ls', st', h'))) (kk : jx_K p l e R s mm args below meth c Q k0 z0 m b n1 D aC pc' ls' st' h') : jx_K p l e R s mm args below meth c Q k0 z0 m b n1 D aC pc ls st h := by
  obtain rfl := Nat.eq_of_beq_eq_true hln
  exact jx_s_isub C hd ha kk
theorem jx_d_imul (C : jx_Ctx p R s mm args meth c m b n1 D aC) (hm : m < 216) (hk0 : k0 ≤ h.1) (hz0 : z0 ≤ h.2.1) (hkR : h'.1 - k0 ≤ R.cells) (hzR : h'.2.1 - z0 ≤ R.slots)  {len x y : Nat} {v : Value} (hd : decode (jx_mi m).2.1 pc = .ok (.imul, len)) (hln : jx_lenOk (.imul) len = true) (hro : jx_rowOk m pc (.imul, len, x, y, v) = true) (ha : jx_act pc (.imul, len, x, y, v) ls st h = some (.inl (pc', ls', st', h'))) (kk : jx_K p l e R s mm args below meth c Q k0 z0 m b n1 D aC pc' ls' st' h') : jx_K p l e R s mm args below meth c Q k0 z0 m b n1 D aC pc ls st h := by
  obtain rfl := Nat.eq_of_beq_eq_true hln
  exact jx_s_imul C hd ha kk
theorem jx_d_iand (C : jx_Ctx p R s mm args meth c m b n1 D aC) (hm : m < 216) (hk0 : k0 ≤ h.1) (hz0 : z0 ≤ h.2.1) (hkR : h'.1 - k0 ≤ R.cells) (hzR : h'.2.1 - z0 ≤ R.slots)  {len x y : Nat} {v : Value} (hd : decode (jx_mi m).2.1 pc = .ok (.iand, len)) (hln : jx_lenOk (.iand) len = true) (hro : jx_rowOk m pc (.iand, len, x, y, v) = true) (ha : jx_act pc (.iand, len, x, y, v) ls st h = some (.inl (pc', ls', st', h'))) (kk : jx_K p l e R s mm args below meth c Q k0 z0 m b n1 D aC pc' ls' st' h') : jx_K p l e R s mm args below meth c Q k0 z0 m b n1 D aC pc ls st h := by
  obtain rfl := Nat.eq_of_beq_eq_true hln
  exact jx_s_iand C hd ha kk
theorem jx_d_ior (C : jx_Ctx p R s mm args meth c m b n1 D aC) (hm : m < 216) (hk0 : k0 ≤ h.1) (hz0 : z0 ≤ h.2.1) (hkR : h'.1 - k0 ≤ R.cells) (hzR : h'.2.1 - z0 ≤ R.slots)  {len x y : Nat} {v : Value} (hd : decode (jx_mi m).2.1 pc = .ok (.ior, len)) (hln : jx_lenOk (.ior) len = true) (hro : jx_rowOk m pc (.ior, len, x, y, v) = true) (ha : jx_act pc (.ior, len, x, y, v) ls st h = some (.inl (pc', ls', st', h'))) (kk : jx_K p l e R s mm args below meth c Q k0 z0 m b n1 D aC pc' ls' st' h') : jx_K p l e R s mm args below meth c Q k0 z0 m b n1 D aC pc ls st h := by
  obtain rfl := Nat.eq_of_beq_eq_true hln
  exact jx_s_ior C hd ha kk
theorem jx_d_ixor (C : jx_Ctx p R s mm args meth c m b n1 D aC) (hm : m < 216) (hk0 : k0 ≤ h.1) (hz0 : z0 ≤ h.2.1) (hkR : h'.1 - k0 ≤ R.cells) (hzR : h'.2.1 - z0 ≤ R.slots)  {len x y : Nat} {v : Value} (hd : decode (jx_mi m).2.1 pc = .ok (.ixor, len)) (hln : jx_lenOk (.ixor) len = true) (hro : jx_rowOk m pc (.ixor, len, x, y, v) = true) (ha : jx_act pc (.ixor, len, x, y, v) ls st h = some (.inl (pc', ls', st', h'))) (kk : jx_K p l e R s mm args below meth c Q k0 z0 m b n1 D aC pc' ls' st' h') : jx_K p l e R s mm args below meth c Q k0 z0 m b n1 D aC pc ls st h := by
  obtain rfl := Nat.eq_of_beq_eq_true hln
  exact jx_s_ixor C hd ha kk
theorem jx_d_ineg (C : jx_Ctx p R s mm args meth c m b n1 D aC) (hm : m < 216) (hk0 : k0 ≤ h.1) (hz0 : z0 ≤ h.2.1) (hkR : h'.1 - k0 ≤ R.cells) (hzR : h'.2.1 - z0 ≤ R.slots)  {len x y : Nat} {v : Value} (hd : decode (jx_mi m).2.1 pc = .ok (.ineg, len)) (hln : jx_lenOk (.ineg) len = true) (hro : jx_rowOk m pc (.ineg, len, x, y, v) = true) (ha : jx_act pc (.ineg, len, x, y, v) ls st h = some (.inl (pc', ls', st', h'))) (kk : jx_K p l e R s mm args below meth c Q k0 z0 m b n1 D aC pc' ls' st' h') : jx_K p l e R s mm args below meth c Q k0 z0 m b n1 D aC pc ls st h := by
  obtain rfl := Nat.eq_of_beq_eq_true hln
  exact jx_s_ineg C hd ha kk
theorem jx_d_ishl (C : jx_Ctx p R s mm args meth c m b n1 D aC) (hm : m < 216) (hk0 : k0 ≤ h.1) (hz0 : z0 ≤ h.2.1) (hkR : h'.1 - k0 ≤ R.cells) (hzR : h'.2.1 - z0 ≤ R.slots)  {len x y : Nat} {v : Value} (hd : decode (jx_mi m).2.1 pc = .ok (.ishl, len)) (hln : jx_lenOk (.ishl) len = true) (hro : jx_rowOk m pc (.ishl, len, x, y, v) = true) (ha : jx_act pc (.ishl, len, x, y, v) ls st h = some (.inl (pc', ls', st', h'))) (kk : jx_K p l e R s mm args below meth c Q k0 z0 m b n1 D aC pc' ls' st' h') : jx_K p l e R s mm args below meth c Q k0 z0 m b n1 D aC pc ls st h := by
  obtain rfl := Nat.eq_of_beq_eq_true hln
  exact jx_s_ishl C hd ha kk
theorem jx_d_ishr (C : jx_Ctx p R s mm args meth c m b n1 D aC) (hm : m < 216) (hk0 : k0 ≤ h.1) (hz0 : z0 ≤ h.2.1) (hkR : h'.1 - k0 ≤ R.cells) (hzR : h'.2.1 - z0 ≤ R.slots)  {len x y : Nat} {v : Value} (hd : decode (jx_mi m).2.1 pc = .ok (.ishr, len)) (hln : jx_lenOk (.ishr) len = true) (hro : jx_rowOk m pc (.ishr, len, x, y, v) = true) (ha : jx_act pc (.ishr, len, x, y, v) ls st h = some (.inl (pc', ls', st', h'))) (kk : jx_K p l e R s mm args below meth c Q k0 z0 m b n1 D aC pc' ls' st' h') : jx_K p l e R s mm args below meth c Q k0 z0 m b n1 D aC pc ls st h := by
  obtain rfl := Nat.eq_of_beq_eq_true hln
  exact jx_s_ishr C hd ha kk
theorem jx_d_iushr (C : jx_Ctx p R s mm args meth c m b n1 D aC) (hm : m < 216) (hk0 : k0 ≤ h.1) (hz0 : z0 ≤ h.2.1) (hkR : h'.1 - k0 ≤ R.cells) (hzR : h'.2.1 - z0 ≤ R.slots)  {len x y : Nat} {v : Value} (hd : decode (jx_mi m).2.1 pc = .ok (.iushr, len)) (hln : jx_lenOk (.iushr) len = true) (hro : jx_rowOk m pc (.iushr, len, x, y, v) = true) (ha : jx_act pc (.iushr, len, x, y, v) ls st h = some (.inl (pc', ls', st', h'))) (kk : jx_K p l e R s mm args below meth c Q k0 z0 m b n1 D aC pc' ls' st' h') : jx_K p l e R s mm args below meth c Q k0 z0 m b n1 D aC pc ls st h := by
  obtain rfl := Nat.eq_of_beq_eq_true hln
  exact jx_s_iushr C hd ha kk
theorem jx_d_ladd (C : jx_Ctx p R s mm args meth c m b n1 D aC) (hm : m < 216) (hk0 : k0 ≤ h.1) (hz0 : z0 ≤ h.2.1) (hkR : h'.1 - k0 ≤ R.cells) (hzR : h'.2.1 - z0 ≤ R.slots)  {len x y : Nat} {v : Value} (hd : decode (jx_mi m).2.1 pc = .ok (.ladd, len)) (hln : jx_lenOk (.ladd) len = true) (hro : jx_rowOk m pc (.ladd, len, x, y, v) = true) (ha : jx_act pc (.ladd, len, x, y, v) ls st h = some (.inl (pc', ls', st', h'))) (kk : jx_K p l e R s mm args below meth c Q k0 z0 m b n1 D aC pc' ls' st' h') : jx_K p l e R s mm args below meth c Q k0 z0 m b n1 D aC pc ls st h := by
  obtain rfl := Nat.eq_of_beq_eq_true hln
  exact jx_s_ladd C hd ha kk
theorem jx_d_lsub (C : jx_Ctx p R s mm args meth c m b n1 D aC) (hm : m < 216) (hk0 : k0 ≤ h.1) (hz0 : z0 ≤ h.2.1) (hkR : h'.1 - k0 ≤ R.cells) (hzR : h'.2.1 - z0 ≤ R.slots)  {len x y : Nat} {v : Value} (hd : decode (jx_mi m).2.1 pc = .ok (.lsub, len)) (hln : jx_lenOk (.lsub) len = true) (hro : jx_rowOk m pc (.lsub, len, x, y, v) = true) (ha : jx_act pc (.lsub, len, x, y, v) ls st h = some (.inl (pc', ls', st', h'))) (kk : jx_K p l e R s mm args below meth c Q k0 z0 m b n1 D aC pc' ls' st' h') : jx_K p l e R s mm args below meth c Q k0 z0 m b n1 D aC pc ls st h := by
  obtain rfl := Nat.eq_of_beq_eq_true hln
  exact jx_s_lsub C hd ha kk
theorem jx_d_lmul (C : jx_Ctx p R s mm args meth c m b n1 D aC) (hm : m < 216) (hk0 : k0 ≤ h.1) (hz0 : z0 ≤ h.2.1) (hkR : h'.1 - k0 ≤ R.cells) (hzR : h'.2.1 - z0 ≤ R.slots)  {len x y : Nat} {v : Value} (hd : decode (jx_mi m).2.1 pc = .ok (.lmul, len)) (hln : jx_lenOk (.lmul) len = true) (hro : jx_rowOk m pc (.lmul, len, x, y, v) = true) (ha : jx_act pc (.lmul, len, x, y, v) ls st h = some (.inl (pc', ls', st', h'))) (kk : jx_K p l e R s mm args below meth c Q k0 z0 m b n1 D aC pc' ls' st' h') : jx_K p l e R s mm args below meth c Q k0 z0 m b n1 D aC pc ls st h := by
  obtain rfl := Nat.eq_of_beq_eq_true hln
  exact jx_s_lmul C hd ha kk
theorem jx_d_lxor (C : jx_Ctx p R s mm args meth c m b n1 D aC) (hm : m < 216) (hk0 : k0 ≤ h.1) (hz0 : z0 ≤ h.2.1) (hkR : h'.1 - k0 ≤ R.cells) (hzR : h'.2.1 - z0 ≤ R.slots)  {len x y : Nat} {v : Value} (hd : decode (jx_mi m).2.1 pc = .ok (.lxor, len)) (hln : jx_lenOk (.lxor) len = true) (hro : jx_rowOk m pc (.lxor, len, x, y, v) = true) (ha : jx_act pc (.lxor, len, x, y, v) ls st h = some (.inl (pc', ls', st', h'))) (kk : jx_K p l e R s mm args below meth c Q k0 z0 m b n1 D aC pc' ls' st' h') : jx_K p l e R s mm args below meth c Q k0 z0 m b n1 D aC pc ls st h := by
  obtain rfl := Nat.eq_of_beq_eq_true hln
  exact jx_s_lxor C hd ha kk
theorem jx_d_lneg (C : jx_Ctx p R s mm args meth c m b n1 D aC) (hm : m < 216) (hk0 : k0 ≤ h.1) (hz0 : z0 ≤ h.2.1) (hkR : h'.1 - k0 ≤ R.cells) (hzR : h'.2.1 - z0 ≤ R.slots)  {len x y : Nat} {v : Value} (hd : decode (jx_mi m).2.1 pc = .ok (.lneg, len)) (hln : jx_lenOk (.lneg) len = true) (hro : jx_rowOk m pc (.lneg, len, x, y, v) = true) (ha : jx_act pc (.lneg, len, x, y, v) ls st h = some (.inl (pc', ls', st', h'))) (kk : jx_K p l e R s mm args below meth c Q k0 z0 m b n1 D aC pc' ls' st' h') : jx_K p l e R s mm args below meth c Q k0 z0 m b n1 D aC pc ls st h := by
  obtain rfl := Nat.eq_of_beq_eq_true hln
  exact jx_s_lneg C hd ha kk
theorem jx_d_lcmp (C : jx_Ctx p R s mm args meth c m b n1 D aC) (hm : m < 216) (hk0 : k0 ≤ h.1) (hz0 : z0 ≤ h.2.1) (hkR : h'.1 - k0 ≤ R.cells) (hzR : h'.2.1 - z0 ≤ R.slots)  {len x y : Nat} {v : Value} (hd : decode (jx_mi m).2.1 pc = .ok (.lcmp, len)) (hln : jx_lenOk (.lcmp) len = true) (hro : jx_rowOk m pc (.lcmp, len, x, y, v) = true) (ha : jx_act pc (.lcmp, len, x, y, v) ls st h = some (.inl (pc', ls', st', h'))) (kk : jx_K p l e R s mm args below meth c Q k0 z0 m b n1 D aC pc' ls' st' h') : jx_K p l e R s mm args below meth c Q k0 z0 m b n1 D aC pc ls st h := by
  obtain rfl := Nat.eq_of_beq_eq_true hln
  exact jx_s_lcmp C hd ha kk
theorem jx_d_i2l (C : jx_Ctx p R s mm args meth c m b n1 D aC) (hm : m < 216) (hk0 : k0 ≤ h.1) (hz0 : z0 ≤ h.2.1) (hkR : h'.1 - k0 ≤ R.cells) (hzR : h'.2.1 - z0 ≤ R.slots)  {len x y : Nat} {v : Value} (hd : decode (jx_mi m).2.1 pc = .ok (.i2l, len)) (hln : jx_lenOk (.i2l) len = true) (hro : jx_rowOk m pc (.i2l, len, x, y, v) = true) (ha : jx_act pc (.i2l, len, x, y, v) ls st h = some (.inl (pc', ls', st', h'))) (kk : jx_K p l e R s mm args below meth c Q k0 z0 m b n1 D aC pc' ls' st' h') : jx_K p l e R s mm args below meth c Q k0 z0 m b n1 D aC pc ls st h := by
  obtain rfl := Nat.eq_of_beq_eq_true hln
  exact jx_s_i2l C hd ha kk
theorem jx_d_l2i (C : jx_Ctx p R s mm args meth c m b n1 D aC) (hm : m < 216) (hk0 : k0 ≤ h.1) (hz0 : z0 ≤ h.2.1) (hkR : h'.1 - k0 ≤ R.cells) (hzR : h'.2.1 - z0 ≤ R.slots)  {len x y : Nat} {v : Value} (hd : decode (jx_mi m).2.1 pc = .ok (.l2i, len)) (hln : jx_lenOk (.l2i) len = true) (hro : jx_rowOk m pc (.l2i, len, x, y, v) = true) (ha : jx_act pc (.l2i, len, x, y, v) ls st h = some (.inl (pc', ls', st', h'))) (kk : jx_K p l e R s mm args below meth c Q k0 z0 m b n1 D aC pc' ls' st' h') : jx_K p l e R s mm args below meth c Q k0 z0 m b n1 D aC pc ls st h := by
  obtain rfl := Nat.eq_of_beq_eq_true hln
  exact jx_s_l2i C hd ha kk
theorem jx_d_i2b (C : jx_Ctx p R s mm args meth c m b n1 D aC) (hm : m < 216) (hk0 : k0 ≤ h.1) (hz0 : z0 ≤ h.2.1) (hkR : h'.1 - k0 ≤ R.cells) (hzR : h'.2.1 - z0 ≤ R.slots)  {len x y : Nat} {v : Value} (hd : decode (jx_mi m).2.1 pc = .ok (.i2b, len)) (hln : jx_lenOk (.i2b) len = true) (hro : jx_rowOk m pc (.i2b, len, x, y, v) = true) (ha : jx_act pc (.i2b, len, x, y, v) ls st h = some (.inl (pc', ls', st', h'))) (kk : jx_K p l e R s mm args below meth c Q k0 z0 m b n1 D aC pc' ls' st' h') : jx_K p l e R s mm args below meth c Q k0 z0 m b n1 D aC pc ls st h := by
  obtain rfl := Nat.eq_of_beq_eq_true hln
  exact jx_s_i2b C hd ha kk
theorem jx_d_i2s (C : jx_Ctx p R s mm args meth c m b n1 D aC) (hm : m < 216) (hk0 : k0 ≤ h.1) (hz0 : z0 ≤ h.2.1) (hkR : h'.1 - k0 ≤ R.cells) (hzR : h'.2.1 - z0 ≤ R.slots)  {len x y : Nat} {v : Value} (hd : decode (jx_mi m).2.1 pc = .ok (.i2s, len)) (hln : jx_lenOk (.i2s) len = true) (hro : jx_rowOk m pc (.i2s, len, x, y, v) = true) (ha : jx_act pc (.i2s, len, x, y, v) ls st h = some (.inl (pc', ls', st', h'))) (kk : jx_K p l e R s mm args below meth c Q k0 z0 m b n1 D aC pc' ls' st' h') : jx_K p l e R s mm args below meth c Q k0 z0 m b n1 D aC pc ls st h := by
  obtain rfl := Nat.eq_of_beq_eq_true hln
  exact jx_s_i2s C hd ha kk
theorem jx_d_idiv (C : jx_Ctx p R s mm args meth c m b n1 D aC) (hm : m < 216) (hk0 : k0 ≤ h.1) (hz0 : z0 ≤ h.2.1) (hkR : h'.1 - k0 ≤ R.cells) (hzR : h'.2.1 - z0 ≤ R.slots)  {len x y : Nat} {v : Value} (hd : decode (jx_mi m).2.1 pc = .ok (.idiv, len)) (hln : jx_lenOk (.idiv) len = true) (hro : jx_rowOk m pc (.idiv, len, x, y, v) = true) (ha : jx_act pc (.idiv, len, x, y, v) ls st h = some (.inl (pc', ls', st', h'))) (kk : jx_K p l e R s mm args below meth c Q k0 z0 m b n1 D aC pc' ls' st' h') : jx_K p l e R s mm args below meth c Q k0 z0 m b n1 D aC pc ls st h := by
  obtain rfl := Nat.eq_of_beq_eq_true hln
  exact jx_s_idiv C hd ha kk
theorem jx_d_irem (C : jx_Ctx p R s mm args meth c m b n1 D aC) (hm : m < 216) (hk0 : k0 ≤ h.1) (hz0 : z0 ≤ h.2.1) (hkR : h'.1 - k0 ≤ R.cells) (hzR : h'.2.1 - z0 ≤ R.slots)  {len x y : Nat} {v : Value} (hd : decode (jx_mi m).2.1 pc = .ok (.irem, len)) (hln : jx_lenOk (.irem) len = true) (hro : jx_rowOk m pc (.irem, len, x, y, v) = true) (ha : jx_act pc (.irem, len, x, y, v) ls st h = some (.inl (pc', ls', st', h'))) (kk : jx_K p l e R s mm args below meth c Q k0 z0 m b n1 D aC pc' ls' st' h') : jx_K p l e R s mm args below meth c Q k0 z0 m b n1 D aC pc ls st h := by
  obtain rfl := Nat.eq_of_beq_eq_true hln
  exact jx_s_irem C hd ha kk
theorem jx_d_ldiv (C : jx_Ctx p R s mm args meth c m b n1 D aC) (hm : m < 216) (hk0 : k0 ≤ h.1) (hz0 : z0 ≤ h.2.1) (hkR : h'.1 - k0 ≤ R.cells) (hzR : h'.2.1 - z0 ≤ R.slots)  {len x y : Nat} {v : Value} (hd : decode (jx_mi m).2.1 pc = .ok (.ldiv, len)) (hln : jx_lenOk (.ldiv) len = true) (hro : jx_rowOk m pc (.ldiv, len, x, y, v) = true) (ha : jx_act pc (.ldiv, len, x, y, v) ls st h = some (.inl (pc', ls', st', h'))) (kk : jx_K p l e R s mm args below meth c Q k0 z0 m b n1 D aC pc' ls' st' h') : jx_K p l e R s mm args below meth c Q k0 z0 m b n1 D aC pc ls st h := by
  obtain rfl := Nat.eq_of_beq_eq_true hln
  exact jx_s_ldiv C hd ha kk
theorem jx_d_aconst_null (C : jx_Ctx p R s mm args meth c m b n1 D aC) (hm : m < 216) (hk0 : k0 ≤ h.1) (hz0 : z0 ≤ h.2.1) (hkR : h'.1 - k0 ≤ R.cells) (hzR : h'.2.1 - z0 ≤ R.slots)  {len x y : Nat} {v : Value} (hd : decode (jx_mi m).2.1 pc = .ok (.aconst_null, len)) (hln : jx_lenOk (.aconst_null) len = true) (hro : jx_rowOk m pc (.aconst_null, len, x, y, v) = true) (ha : jx_act pc (.aconst_null, len, x, y, v) ls st h = some (.inl (pc', ls', st', h'))) (kk : jx_K p l e R s mm args below meth c Q k0 z0 m b n1 D aC pc' ls' st' h') : jx_K p l e R s mm args below meth c Q k0 z0 m b n1 D aC pc ls st h := by
  obtain rfl := Nat.eq_of_beq_eq_true hln
  exact jx_s_aconst_null C hd ha kk
theorem jx_d_dup (C : jx_Ctx p R s mm args meth c m b n1 D aC) (hm : m < 216) (hk0 : k0 ≤ h.1) (hz0 : z0 ≤ h.2.1) (hkR : h'.1 - k0 ≤ R.cells) (hzR : h'.2.1 - z0 ≤ R.slots)  {len x y : Nat} {v : Value} (hd : decode (jx_mi m).2.1 pc = .ok (.dup, len)) (hln : jx_lenOk (.dup) len = true) (hro : jx_rowOk m pc (.dup, len, x, y, v) = true) (ha : jx_act pc (.dup, len, x, y, v) ls st h = some (.inl (pc', ls', st', h'))) (kk : jx_K p l e R s mm args below meth c Q k0 z0 m b n1 D aC pc' ls' st' h') : jx_K p l e R s mm args below meth c Q k0 z0 m b n1 D aC pc ls st h := by
  obtain rfl := Nat.eq_of_beq_eq_true hln
  exact jx_s_dup C hd ha kk
theorem jx_d_pop (C : jx_Ctx p R s mm args meth c m b n1 D aC) (hm : m < 216) (hk0 : k0 ≤ h.1) (hz0 : z0 ≤ h.2.1) (hkR : h'.1 - k0 ≤ R.cells) (hzR : h'.2.1 - z0 ≤ R.slots)  {len x y : Nat} {v : Value} (hd : decode (jx_mi m).2.1 pc = .ok (.pop, len)) (hln : jx_lenOk (.pop) len = true) (hro : jx_rowOk m pc (.pop, len, x, y, v) = true) (ha : jx_act pc (.pop, len, x, y, v) ls st h = some (.inl (pc', ls', st', h'))) (kk : jx_K p l e R s mm args below meth c Q k0 z0 m b n1 D aC pc' ls' st' h') : jx_K p l e R s mm args below meth c Q k0 z0 m b n1 D aC pc ls st h := by
  obtain rfl := Nat.eq_of_beq_eq_true hln
  exact jx_s_pop C hd ha kk
theorem jx_d_dup2 (C : jx_Ctx p R s mm args meth c m b n1 D aC) (hm : m < 216) (hk0 : k0 ≤ h.1) (hz0 : z0 ≤ h.2.1) (hkR : h'.1 - k0 ≤ R.cells) (hzR : h'.2.1 - z0 ≤ R.slots)  {len x y : Nat} {v : Value} (hd : decode (jx_mi m).2.1 pc = .ok (.dup2, len)) (hln : jx_lenOk (.dup2) len = true) (hro : jx_rowOk m pc (.dup2, len, x, y, v) = true) (ha : jx_act pc (.dup2, len, x, y, v) ls st h = some (.inl (pc', ls', st', h'))) (kk : jx_K p l e R s mm args below meth c Q k0 z0 m b n1 D aC pc' ls' st' h') : jx_K p l e R s mm args below meth c Q k0 z0 m b n1 D aC pc ls st h := by
  obtain rfl := Nat.eq_of_beq_eq_true hln
  exact jx_s_dup2 C hd ha kk
theorem jx_d_iaload (C : jx_Ctx p R s mm args meth c m b n1 D aC) (hm : m < 216) (hk0 : k0 ≤ h.1) (hz0 : z0 ≤ h.2.1) (hkR : h'.1 - k0 ≤ R.cells) (hzR : h'.2.1 - z0 ≤ R.slots)  {len x y : Nat} {v : Value} (hd : decode (jx_mi m).2.1 pc = .ok (.iaload, len)) (hln : jx_lenOk (.iaload) len = true) (hro : jx_rowOk m pc (.iaload, len, x, y, v) = true) (ha : jx_act pc (.iaload, len, x, y, v) ls st h = some (.inl (pc', ls', st', h'))) (kk : jx_K p l e R s mm args below meth c Q k0 z0 m b n1 D aC pc' ls' st' h') : jx_K p l e R s mm args below meth c Q k0 z0 m b n1 D aC pc ls st h := by
  obtain rfl := Nat.eq_of_beq_eq_true hln
  exact jx_s_iaload C hd ha kk
theorem jx_d_baload (C : jx_Ctx p R s mm args meth c m b n1 D aC) (hm : m < 216) (hk0 : k0 ≤ h.1) (hz0 : z0 ≤ h.2.1) (hkR : h'.1 - k0 ≤ R.cells) (hzR : h'.2.1 - z0 ≤ R.slots)  {len x y : Nat} {v : Value} (hd : decode (jx_mi m).2.1 pc = .ok (.baload, len)) (hln : jx_lenOk (.baload) len = true) (hro : jx_rowOk m pc (.baload, len, x, y, v) = true) (ha : jx_act pc (.baload, len, x, y, v) ls st h = some (.inl (pc', ls', st', h'))) (kk : jx_K p l e R s mm args below meth c Q k0 z0 m b n1 D aC pc' ls' st' h') : jx_K p l e R s mm args below meth c Q k0 z0 m b n1 D aC pc ls st h := by
  obtain rfl := Nat.eq_of_beq_eq_true hln
  exact jx_s_baload C hd ha kk
theorem jx_d_laload (C : jx_Ctx p R s mm args meth c m b n1 D aC) (hm : m < 216) (hk0 : k0 ≤ h.1) (hz0 : z0 ≤ h.2.1) (hkR : h'.1 - k0 ≤ R.cells) (hzR : h'.2.1 - z0 ≤ R.slots)  {len x y : Nat} {v : Value} (hd : decode (jx_mi m).2.1 pc = .ok (.laload, len)) (hln : jx_lenOk (.laload) len = true) (hro : jx_rowOk m pc (.laload, len, x, y, v) = true) (ha : jx_act pc (.laload, len, x, y, v) ls st h = some (.inl (pc', ls', st', h'))) (kk : jx_K p l e R s mm args below meth c Q k0 z0 m b n1 D aC pc' ls' st' h') : jx_K p l e R s mm args below meth c Q k0 z0 m b n1 D aC pc ls st h := by
  obtain rfl := Nat.eq_of_beq_eq_true hln
  exact jx_s_laload C hd ha kk
theorem jx_d_aaload (C : jx_Ctx p R s mm args meth c m b n1 D aC) (hm : m < 216) (hk0 : k0 ≤ h.1) (hz0 : z0 ≤ h.2.1) (hkR : h'.1 - k0 ≤ R.cells) (hzR : h'.2.1 - z0 ≤ R.slots)  {len x y : Nat} {v : Value} (hd : decode (jx_mi m).2.1 pc = .ok (.aaload, len)) (hln : jx_lenOk (.aaload) len = true) (hro : jx_rowOk m pc (.aaload, len, x, y, v) = true) (ha : jx_act pc (.aaload, len, x, y, v) ls st h = some (.inl (pc', ls', st', h'))) (kk : jx_K p l e R s mm args below meth c Q k0 z0 m b n1 D aC pc' ls' st' h') : jx_K p l e R s mm args below meth c Q k0 z0 m b n1 D aC pc ls st h := by
  obtain rfl := Nat.eq_of_beq_eq_true hln
  exact jx_s_aaload C hd ha kk
theorem jx_d_iastore (C : jx_Ctx p R s mm args meth c m b n1 D aC) (hm : m < 216) (hk0 : k0 ≤ h.1) (hz0 : z0 ≤ h.2.1) (hkR : h'.1 - k0 ≤ R.cells) (hzR : h'.2.1 - z0 ≤ R.slots)  {len x y : Nat} {v : Value} (hd : decode (jx_mi m).2.1 pc = .ok (.iastore, len)) (hln : jx_lenOk (.iastore) len = true) (hro : jx_rowOk m pc (.iastore, len, x, y, v) = true) (ha : jx_act pc (.iastore, len, x, y, v) ls st h = some (.inl (pc', ls', st', h'))) (kk : jx_K p l e R s mm args below meth c Q k0 z0 m b n1 D aC pc' ls' st' h') : jx_K p l e R s mm args below meth c Q k0 z0 m b n1 D aC pc ls st h := by
  obtain rfl := Nat.eq_of_beq_eq_true hln
  exact jx_s_iastore C hd ha kk
theorem jx_d_bastore (C : jx_Ctx p R s mm args meth c m b n1 D aC) (hm : m < 216) (hk0 : k0 ≤ h.1) (hz0 : z0 ≤ h.2.1) (hkR : h'.1 - k0 ≤ R.cells) (hzR : h'.2.1 - z0 ≤ R.slots)  {len x y : Nat} {v : Value} (hd : decode (jx_mi m).2.1 pc = .ok (.bastore, len)) (hln : jx_lenOk (.bastore) len = true) (hro : jx_rowOk m pc (.bastore, len, x, y, v) = true) (ha : jx_act pc (.bastore, len, x, y, v) ls st h = some (.inl (pc', ls', st', h'))) (kk : jx_K p l e R s mm args below meth c Q k0 z0 m b n1 D aC pc' ls' st' h') : jx_K p l e R s mm args below meth c Q k0 z0 m b n1 D aC pc ls st h := by
  obtain rfl := Nat.eq_of_beq_eq_true hln
  exact jx_s_bastore C hd ha kk
theorem jx_d_lastore (C : jx_Ctx p R s mm args meth c m b n1 D aC) (hm : m < 216) (hk0 : k0 ≤ h.1) (hz0 : z0 ≤ h.2.1) (hkR : h'.1 - k0 ≤ R.cells) (hzR : h'.2.1 - z0 ≤ R.slots)  {len x y : Nat} {v : Value} (hd : decode (jx_mi m).2.1 pc = .ok (.lastore, len)) (hln : jx_lenOk (.lastore) len = true) (hro : jx_rowOk m pc (.lastore, len, x, y, v) = true) (ha : jx_act pc (.lastore, len, x, y, v) ls st h = some (.inl (pc', ls', st', h'))) (kk : jx_K p l e R s mm args below meth c Q k0 z0 m b n1 D aC pc' ls' st' h') : jx_K p l e R s mm args below meth c Q k0 z0 m b n1 D aC pc ls st h := by
  obtain rfl := Nat.eq_of_beq_eq_true hln
  exact jx_s_lastore C hd ha kk
theorem jx_d_aastore (C : jx_Ctx p R s mm args meth c m b n1 D aC) (hm : m < 216) (hk0 : k0 ≤ h.1) (hz0 : z0 ≤ h.2.1) (hkR : h'.1 - k0 ≤ R.cells) (hzR : h'.2.1 - z0 ≤ R.slots)  {len x y : Nat} {v : Value} (hd : decode (jx_mi m).2.1 pc = .ok (.aastore, len)) (hln : jx_lenOk (.aastore) len = true) (hro : jx_rowOk m pc (.aastore, len, x, y, v) = true) (ha : jx_act pc (.aastore, len, x, y, v) ls st h = some (.inl (pc', ls', st', h'))) (kk : jx_K p l e R s mm args below meth c Q k0 z0 m b n1 D aC pc' ls' st' h') : jx_K p l e R s mm args below meth c Q k0 z0 m b n1 D aC pc ls st h := by
  obtain rfl := Nat.eq_of_beq_eq_true hln
  exact jx_s_aastore C hd ha kk
theorem jx_d_arraylength (C : jx_Ctx p R s mm args meth c m b n1 D aC) (hm : m < 216) (hk0 : k0 ≤ h.1) (hz0 : z0 ≤ h.2.1) (hkR : h'.1 - k0 ≤ R.cells) (hzR : h'.2.1 - z0 ≤ R.slots)  {len x y : Nat} {v : Value} (hd : decode (jx_mi m).2.1 pc = .ok (.arraylength, len)) (hln : jx_lenOk (.arraylength) len = true) (hro : jx_rowOk m pc (.arraylength, len, x, y, v) = true) (ha : jx_act pc (.arraylength, len, x, y, v) ls st h = some (.inl (pc', ls', st', h'))) (kk : jx_K p l e R s mm args below meth c Q k0 z0 m b n1 D aC pc' ls' st' h') : jx_K p l e R s mm args below meth c Q k0 z0 m b n1 D aC pc ls st h := by
  obtain rfl := Nat.eq_of_beq_eq_true hln
  exact jx_s_arraylength C hd ha kk
theorem jx_d_iconst (C : jx_Ctx p R s mm args meth c m b n1 D aC) (hm : m < 216) (hk0 : k0 ≤ h.1) (hz0 : z0 ≤ h.2.1) (hkR : h'.1 - k0 ≤ R.cells) (hzR : h'.2.1 - z0 ≤ R.slots) {n : Int} {len x y : Nat} {v : Value} (hd : decode (jx_mi m).2.1 pc = .ok (.iconst n, len)) (hln : jx_lenOk (.iconst n) len = true) (hro : jx_rowOk m pc (.iconst n, len, x, y, v) = true) (ha : jx_act pc (.iconst n, len, x, y, v) ls st h = some (.inl (pc', ls', st', h'))) (kk : jx_K p l e R s mm args below meth c Q k0 z0 m b n1 D aC pc' ls' st' h') : jx_K p l e R s mm args below meth c Q k0 z0 m b n1 D aC pc ls st h := by
  obtain rfl := Nat.eq_of_beq_eq_true hln
  exact jx_s_iconst C hd (of_decide_eq_true hro) ha kk
theorem jx_d_bipush (C : jx_Ctx p R s mm args meth c m b n1 D aC) (hm : m < 216) (hk0 : k0 ≤ h.1) (hz0 : z0 ≤ h.2.1) (hkR : h'.1 - k0 ≤ R.cells) (hzR : h'.2.1 - z0 ≤ R.slots) {n : Int} {len x y : Nat} {v : Value} (hd : decode (jx_mi m).2.1 pc = .ok (.bipush n, len)) (hln : jx_lenOk (.bipush n) len = true) (hro : jx_rowOk m pc (.bipush n, len, x, y, v) = true) (ha : jx_act pc (.bipush n, len, x, y, v) ls st h = some (.inl (pc', ls', st', h'))) (kk : jx_K p l e R s mm args below meth c Q k0 z0 m b n1 D aC pc' ls' st' h') : jx_K p l e R s mm args below meth c Q k0 z0 m b n1 D aC pc ls st h := by
  obtain rfl := Nat.eq_of_beq_eq_true hln
  exact jx_s_bipush C hd (of_decide_eq_true hro) ha kk
theorem jx_d_sipush (C : jx_Ctx p R s mm args meth c m b n1 D aC) (hm : m < 216) (hk0 : k0 ≤ h.1) (hz0 : z0 ≤ h.2.1) (hkR : h'.1 - k0 ≤ R.cells) (hzR : h'.2.1 - z0 ≤ R.slots) {n : Int} {len x y : Nat} {v : Value} (hd : decode (jx_mi m).2.1 pc = .ok (.sipush n, len)) (hln : jx_lenOk (.sipush n) len = true) (hro : jx_rowOk m pc (.sipush n, len, x, y, v) = true) (ha : jx_act pc (.sipush n, len, x, y, v) ls st h = some (.inl (pc', ls', st', h'))) (kk : jx_K p l e R s mm args below meth c Q k0 z0 m b n1 D aC pc' ls' st' h') : jx_K p l e R s mm args below meth c Q k0 z0 m b n1 D aC pc ls st h := by
  obtain rfl := Nat.eq_of_beq_eq_true hln
  exact jx_s_sipush C hd (of_decide_eq_true hro) ha kk
theorem jx_d_lconst (C : jx_Ctx p R s mm args meth c m b n1 D aC) (hm : m < 216) (hk0 : k0 ≤ h.1) (hz0 : z0 ≤ h.2.1) (hkR : h'.1 - k0 ≤ R.cells) (hzR : h'.2.1 - z0 ≤ R.slots) {n : Fin 2} {len x y : Nat} {v : Value} (hd : decode (jx_mi m).2.1 pc = .ok (.lconst n, len)) (hln : jx_lenOk (.lconst n) len = true) (hro : jx_rowOk m pc (.lconst n, len, x, y, v) = true) (ha : jx_act pc (.lconst n, len, x, y, v) ls st h = some (.inl (pc', ls', st', h'))) (kk : jx_K p l e R s mm args below meth c Q k0 z0 m b n1 D aC pc' ls' st' h') : jx_K p l e R s mm args below meth c Q k0 z0 m b n1 D aC pc ls st h := by
  obtain rfl := Nat.eq_of_beq_eq_true hln
  exact jx_s_lconst C hd (of_decide_eq_true hro) ha kk
theorem jx_d_ldc (C : jx_Ctx p R s mm args meth c m b n1 D aC) (hm : m < 216) (hk0 : k0 ≤ h.1) (hz0 : z0 ≤ h.2.1) (hkR : h'.1 - k0 ≤ R.cells) (hzR : h'.2.1 - z0 ≤ R.slots) {n : Nat} {len x y : Nat} {v : Value} (hd : decode (jx_mi m).2.1 pc = .ok (.ldc n, len)) (hln : jx_lenOk (.ldc n) len = true) (hro : jx_rowOk m pc (.ldc n, len, x, y, v) = true) (ha : jx_act pc (.ldc n, len, x, y, v) ls st h = some (.inl (pc', ls', st', h'))) (kk : jx_K p l e R s mm args below meth c Q k0 z0 m b n1 D aC pc' ls' st' h') : jx_K p l e R s mm args below meth c Q k0 z0 m b n1 D aC pc ls st h := by
  obtain rfl := Nat.eq_of_beq_eq_true hln
  exact jx_s_ldc C hd (jx_pC_get hro).1 ha kk
theorem jx_d_ldc_w (C : jx_Ctx p R s mm args meth c m b n1 D aC) (hm : m < 216) (hk0 : k0 ≤ h.1) (hz0 : z0 ≤ h.2.1) (hkR : h'.1 - k0 ≤ R.cells) (hzR : h'.2.1 - z0 ≤ R.slots) {n : Nat} {len x y : Nat} {v : Value} (hd : decode (jx_mi m).2.1 pc = .ok (.ldc_w n, len)) (hln : jx_lenOk (.ldc_w n) len = true) (hro : jx_rowOk m pc (.ldc_w n, len, x, y, v) = true) (ha : jx_act pc (.ldc_w n, len, x, y, v) ls st h = some (.inl (pc', ls', st', h'))) (kk : jx_K p l e R s mm args below meth c Q k0 z0 m b n1 D aC pc' ls' st' h') : jx_K p l e R s mm args below meth c Q k0 z0 m b n1 D aC pc ls st h := by
  obtain rfl := Nat.eq_of_beq_eq_true hln
  exact jx_s_ldc_w C hd (jx_pC_get hro).1 ha kk
theorem jx_d_ldc2_w (C : jx_Ctx p R s mm args meth c m b n1 D aC) (hm : m < 216) (hk0 : k0 ≤ h.1) (hz0 : z0 ≤ h.2.1) (hkR : h'.1 - k0 ≤ R.cells) (hzR : h'.2.1 - z0 ≤ R.slots) {n : Nat} {len x y : Nat} {v : Value} (hd : decode (jx_mi m).2.1 pc = .ok (.ldc2_w n, len)) (hln : jx_lenOk (.ldc2_w n) len = true) (hro : jx_rowOk m pc (.ldc2_w n, len, x, y, v) = true) (ha : jx_act pc (.ldc2_w n, len, x, y, v) ls st h = some (.inl (pc', ls', st', h'))) (kk : jx_K p l e R s mm args below meth c Q k0 z0 m b n1 D aC pc' ls' st' h') : jx_K p l e R s mm args below meth c Q k0 z0 m b n1 D aC pc ls st h := by
  obtain rfl := Nat.eq_of_beq_eq_true hln
  exact jx_s_ldc2_w C hd (jx_pC_get hro).2 ha kk
theorem jx_d_iload (C : jx_Ctx p R s mm args meth c m b n1 D aC) (hm : m < 216) (hk0 : k0 ≤ h.1) (hz0 : z0 ≤ h.2.1) (hkR : h'.1 - k0 ≤ R.cells) (hzR : h'.2.1 - z0 ≤ R.slots) {n : Nat} {len x y : Nat} {v : Value} (hd : decode (jx_mi m).2.1 pc = .ok (.iload n, len)) (hln : jx_lenOk (.iload n) len = true) (hro : jx_rowOk m pc (.iload n, len, x, y, v) = true) (ha : jx_act pc (.iload n, len, x, y, v) ls st h = some (.inl (pc', ls', st', h'))) (kk : jx_K p l e R s mm args below meth c Q k0 z0 m b n1 D aC pc' ls' st' h') : jx_K p l e R s mm args below meth c Q k0 z0 m b n1 D aC pc ls st h := by
  obtain rfl := Nat.eq_of_beq_eq_true hln
  exact jx_s_iload C hd (Nat.eq_of_beq_eq_true hro) ha kk
theorem jx_d_iload_n (C : jx_Ctx p R s mm args meth c m b n1 D aC) (hm : m < 216) (hk0 : k0 ≤ h.1) (hz0 : z0 ≤ h.2.1) (hkR : h'.1 - k0 ≤ R.cells) (hzR : h'.2.1 - z0 ≤ R.slots) {n : Fin 4} {len x y : Nat} {v : Value} (hd : decode (jx_mi m).2.1 pc = .ok (.iload_n n, len)) (hln : jx_lenOk (.iload_n n) len = true) (hro : jx_rowOk m pc (.iload_n n, len, x, y, v) = true) (ha : jx_act pc (.iload_n n, len, x, y, v) ls st h = some (.inl (pc', ls', st', h'))) (kk : jx_K p l e R s mm args below meth c Q k0 z0 m b n1 D aC pc' ls' st' h') : jx_K p l e R s mm args below meth c Q k0 z0 m b n1 D aC pc ls st h := by
  obtain rfl := Nat.eq_of_beq_eq_true hln
  exact jx_s_iload_n C hd (Nat.eq_of_beq_eq_true hro) ha kk
theorem jx_d_lload (C : jx_Ctx p R s mm args meth c m b n1 D aC) (hm : m < 216) (hk0 : k0 ≤ h.1) (hz0 : z0 ≤ h.2.1) (hkR : h'.1 - k0 ≤ R.cells) (hzR : h'.2.1 - z0 ≤ R.slots) {n : Nat} {len x y : Nat} {v : Value} (hd : decode (jx_mi m).2.1 pc = .ok (.lload n, len)) (hln : jx_lenOk (.lload n) len = true) (hro : jx_rowOk m pc (.lload n, len, x, y, v) = true) (ha : jx_act pc (.lload n, len, x, y, v) ls st h = some (.inl (pc', ls', st', h'))) (kk : jx_K p l e R s mm args below meth c Q k0 z0 m b n1 D aC pc' ls' st' h') : jx_K p l e R s mm args below meth c Q k0 z0 m b n1 D aC pc ls st h := by
  obtain rfl := Nat.eq_of_beq_eq_true hln
  exact jx_s_lload C hd (Nat.eq_of_beq_eq_true hro) ha kk
theorem jx_d_lload_n (C : jx_Ctx p R s mm args meth c m b n1 D aC) (hm : m < 216) (hk0 : k0 ≤ h.1) (hz0 : z0 ≤ h.2.1) (hkR : h'.1 - k0 ≤ R.cells) (hzR : h'.2.1 - z0 ≤ R.slots) {n : Fin 4} {len x y : Nat} {v : Value} (hd : decode (jx_mi m).2.1 pc = .ok (.lload_n n, len)) (hln : jx_lenOk (.lload_n n) len = true) (hro : jx_rowOk m pc (.lload_n n, len, x, y, v) = true) (ha : jx_act pc (.lload_n n, len, x, y, v) ls st h = some (.inl (pc', ls', st', h'))) (kk : jx_K p l e R s mm args below meth c Q k0 z0 m b n1 D aC pc' ls' st' h') : jx_K p l e R s mm args below meth c Q k0 z0 m b n1 D aC pc ls st h := by
  obtain rfl := Nat.eq_of_beq_eq_true hln
  exact jx_s_lload_n C hd (Nat.eq_of_beq_eq_true hro) ha kk
theorem jx_d_aload (C : jx_Ctx p R s mm args meth c m b n1 D aC) (hm : m < 216) (hk0 : k0 ≤ h.1) (hz0 : z0 ≤ h.2.1) (hkR : h'.1 - k0 ≤ R.cells) (hzR : h'.2.1 - z0 ≤ R.slots) {n : Nat} {len x y : Nat} {v : Value} (hd : decode (jx_mi m).2.1 pc = .ok (.aload n, len)) (hln : jx_lenOk (.aload n) len = true) (hro : jx_rowOk m pc (.aload n, len, x, y, v) = true) (ha : jx_act pc (.aload n, len, x, y, v) ls st h = some (.inl (pc', ls', st', h'))) (kk : jx_K p l e R s mm args below meth c Q k0 z0 m b n1 D aC pc' ls' st' h') : jx_K p l e R s mm args below meth c Q k0 z0 m b n1 D aC pc ls st h := by
  obtain rfl := Nat.eq_of_beq_eq_true hln
  exact jx_s_aload C hd (Nat.eq_of_beq_eq_true hro) ha kk
theorem jx_d_aload_n (C : jx_Ctx p R s mm args meth c m b n1 D aC) (hm : m < 216) (hk0 : k0 ≤ h.1) (hz0 : z0 ≤ h.2.1) (hkR : h'.1 - k0 ≤ R.cells) (hzR : h'.2.1 - z0 ≤ R.slots) {n : Fin 4} {len x y : Nat} {v : Value} (hd : decode (jx_mi m).2.1 pc = .ok (.aload_n n, len)) (hln : jx_lenOk (.aload_n n) len = true) (hro : jx_rowOk m pc (.aload_n n, len, x, y, v) = true) (ha : jx_act pc (.aload_n n, len, x, y, v) ls st h = some (.inl (pc', ls', st', h'))) (kk : jx_K p l e R s mm args below meth c Q k0 z0 m b n1 D aC pc' ls' st' h') : jx_K p l e R s mm args below meth c Q k0 z0 m b n1 D aC pc ls st h := by
  obtain rfl := Nat.eq_of_beq_eq_true hln
  exact jx_s_aload_n C hd (Nat.eq_of_beq_eq_true hro) ha kk
theorem jx_d_istore (C : jx_Ctx p R s mm args meth c m b n1 D aC) (hm : m < 216) (hk0 : k0 ≤ h.1) (hz0 : z0 ≤ h.2.1) (hkR : h'.1 - k0 ≤ R.cells) (hzR : h'.2.1 - z0 ≤ R.slots) {n : Nat} {len x y : Nat} {v : Value} (hd : decode (jx_mi m).2.1 pc = .ok (.istore n, len)) (hln : jx_lenOk (.istore n) len = true) (hro : jx_rowOk m pc (.istore n, len, x, y, v) = true) (ha : jx_act pc (.istore n, len, x, y, v) ls st h = some (.inl (pc', ls', st', h'))) (kk : jx_K p l e R s mm args below meth c Q k0 z0 m b n1 D aC pc' ls' st' h') : jx_K p l e R s mm args below meth c Q k0 z0 m b n1 D aC pc ls st h := by
  obtain rfl := Nat.eq_of_beq_eq_true hln
  exact jx_s_istore C hd (Nat.eq_of_beq_eq_true hro) ha kk
theorem jx_d_istore_n (C : jx_Ctx p R s mm args meth c m b n1 D aC) (hm : m < 216) (hk0 : k0 ≤ h.1) (hz0 : z0 ≤ h.2.1) (hkR : h'.1 - k0 ≤ R.cells) (hzR : h'.2.1 - z0 ≤ R.slots) {n : Fin 4} {len x y : Nat} {v : Value} (hd : decode (jx_mi m).2.1 pc = .ok (.istore_n n, len)) (hln : jx_lenOk (.istore_n n) len = true) (hro : jx_rowOk m pc (.istore_n n, len, x, y, v) = true) (ha : jx_act pc (.istore_n n, len, x, y, v) ls st h = some (.inl (pc', ls', st', h'))) (kk : jx_K p l e R s mm args below meth c Q k0 z0 m b n1 D aC pc' ls' st' h') : jx_K p l e R s mm args below meth c Q k0 z0 m b n1 D aC pc ls st h := by
  obtain rfl := Nat.eq_of_beq_eq_true hln
  exact jx_s_istore_n C hd (Nat.eq_of_beq_eq_true hro) ha kk
theorem jx_d_lstore (C : jx_Ctx p R s mm args meth c m b n1 D aC) (hm : m < 216) (hk0 : k0 ≤ h.1) (hz0 : z0 ≤ h.2.1) (hkR : h'.1 - k0 ≤ R.cells) (hzR : h'.2.1 - z0 ≤ R.slots) {n : Nat} {len x y : Nat} {v : Value} (hd : decode (jx_mi m).2.1 pc = .ok (.lstore n, len)) (hln : jx_lenOk (.lstore n) len = true) (hro : jx_rowOk m pc (.lstore n, len, x, y, v) = true) (ha : jx_act pc (.lstore n, len, x, y, v) ls st h = some (.inl (pc', ls', st', h'))) (kk : jx_K p l e R s mm args below meth c Q k0 z0 m b n1 D aC pc' ls' st' h') : jx_K p l e R s mm args below meth c Q k0 z0 m b n1 D aC pc ls st h := by
  obtain rfl := Nat.eq_of_beq_eq_true hln
  exact jx_s_lstore C hd (Nat.eq_of_beq_eq_true hro) ha kk
theorem jx_d_lstore_n (C : jx_Ctx p R s mm args meth c m b n1 D aC) (hm : m < 216) (hk0 : k0 ≤ h.1) (hz0 : z0 ≤ h.2.1) (hkR : h'.1 - k0 ≤ R.cells) (hzR : h'.2.1 - z0 ≤ R.slots) {n : Fin 4} {len x y : Nat} {v : Value} (hd : decode (jx_mi m).2.1 pc = .ok (.lstore_n n, len)) (hln : jx_lenOk (.lstore_n n) len = true) (hro : jx_rowOk m pc (.lstore_n n, len, x, y, v) = true) (ha : jx_act pc (.lstore_n n, len, x, y, v) ls st h = some (.inl (pc', ls', st', h'))) (kk : jx_K p l e R s mm args below meth c Q k0 z0 m b n1 D aC pc' ls' st' h') : jx_K p l e R s mm args below meth c Q k0 z0 m b n1 D aC pc ls st h := by
  obtain rfl := Nat.eq_of_beq_eq_true hln
  exact jx_s_lstore_n C hd (Nat.eq_of_beq_eq_true hro) ha kk
theorem jx_d_astore (C : jx_Ctx p R s mm args meth c m b n1 D aC) (hm : m < 216) (hk0 : k0 ≤ h.1) (hz0 : z0 ≤ h.2.1) (hkR : h'.1 - k0 ≤ R.cells) (hzR : h'.2.1 - z0 ≤ R.slots) {n : Nat} {len x y : Nat} {v : Value} (hd : decode (jx_mi m).2.1 pc = .ok (.astore n, len)) (hln : jx_lenOk (.astore n) len = true) (hro : jx_rowOk m pc (.astore n, len, x, y, v) = true) (ha : jx_act pc (.astore n, len, x, y, v) ls st h = some (.inl (pc', ls', st', h'))) (kk : jx_K p l e R s mm args below meth c Q k0 z0 m b n1 D aC pc' ls' st' h') : jx_K p l e R s mm args below meth c Q k0 z0 m b n1 D aC pc ls st h := by
  obtain rfl := Nat.eq_of_beq_eq_true hln
  exact jx_s_astore C hd (Nat.eq_of_beq_eq_true hro) ha kk
theorem jx_d_astore_n (C : jx_Ctx p R s mm args meth c m b n1 D aC) (hm : m < 216) (hk0 : k0 ≤ h.1) (hz0 : z0 ≤ h.2.1) (hkR : h'.1 - k0 ≤ R.cells) (hzR : h'.2.1 - z0 ≤ R.slots) {n : Fin 4} {len x y : Nat} {v : Value} (hd : decode (jx_mi m).2.1 pc = .ok (.astore_n n, len)) (hln : jx_lenOk (.astore_n n) len = true) (hro : jx_rowOk m pc (.astore_n n, len, x, y, v) = true) (ha : jx_act pc (.astore_n n, len, x, y, v) ls st h = some (.inl (pc', ls', st', h'))) (kk : jx_K p l e R s mm args below meth c Q k0 z0 m b n1 D aC pc' ls' st' h') : jx_K p l e R s mm args below meth c Q k0 z0 m b n1 D aC pc ls st h := by
  obtain rfl := Nat.eq_of_beq_eq_true hln
  exact jx_s_astore_n C hd (Nat.eq_of_beq_eq_true hro) ha kk
theorem jx_d_iinc (C : jx_Ctx p R s mm args meth c m b n1 D aC) (hm : m < 216) (hk0 : k0 ≤ h.1) (hz0 : z0 ≤ h.2.1) (hkR : h'.1 - k0 ≤ R.cells) (hzR : h'.2.1 - z0 ≤ R.slots) {n : Nat} {k : Int} {len x y : Nat} {v : Value} (hd : decode (jx_mi m).2.1 pc = .ok (.iinc n k, len)) (hln : jx_lenOk (.iinc n k) len = true) (hro : jx_rowOk m pc (.iinc n k, len, x, y, v) = true) (ha : jx_act pc (.iinc n k, len, x, y, v) ls st h = some (.inl (pc', ls', st', h'))) (kk : jx_K p l e R s mm args below meth c Q k0 z0 m b n1 D aC pc' ls' st' h') : jx_K p l e R s mm args below meth c Q k0 z0 m b n1 D aC pc ls st h := by
  obtain rfl := Nat.eq_of_beq_eq_true hln
  have hro2 := (Bool.and_eq_true_iff).mp hro
  exact jx_s_iinc C hd (Nat.eq_of_beq_eq_true hro2.1) (of_decide_eq_true hro2.2) ha kk
theorem jx_d_goto (C : jx_Ctx p R s mm args meth c m b n1 D aC) (hm : m < 216) (hk0 : k0 ≤ h.1) (hz0 : z0 ≤ h.2.1) (hkR : h'.1 - k0 ≤ R.cells) (hzR : h'.2.1 - z0 ≤ R.slots) {o : Int} {len x y : Nat} {v : Value} (hd : decode (jx_mi m).2.1 pc = .ok (.goto o, len)) (hln : jx_lenOk (.goto o) len = true) (hro : jx_rowOk m pc (.goto o, len, x, y, v) = true) (ha : jx_act pc (.goto o, len, x, y, v) ls st h = some (.inl (pc', ls', st', h'))) (kk : jx_K p l e R s mm args below meth c Q k0 z0 m b n1 D aC pc' ls' st' h') : jx_K p l e R s mm args below meth c Q k0 z0 m b n1 D aC pc ls st h := by
  obtain rfl := Nat.eq_of_beq_eq_true hln
  exact jx_s_goto C hd (of_decide_eq_true hro) ha kk
theorem jx_d_ifCond (C : jx_Ctx p R s mm args meth c m b n1 D aC) (hm : m < 216) (hk0 : k0 ≤ h.1) (hz0 : z0 ≤ h.2.1) (hkR : h'.1 - k0 ≤ R.cells) (hzR : h'.2.1 - z0 ≤ R.slots) {q : ClassFile.Cond} {o : Int} {len x y : Nat} {v : Value} (hd : decode (jx_mi m).2.1 pc = .ok (.ifCond q o, len)) (hln : jx_lenOk (.ifCond q o) len = true) (hro : jx_rowOk m pc (.ifCond q o, len, x, y, v) = true) (ha : jx_act pc (.ifCond q o, len, x, y, v) ls st h = some (.inl (pc', ls', st', h'))) (kk : jx_K p l e R s mm args below meth c Q k0 z0 m b n1 D aC pc' ls' st' h') : jx_K p l e R s mm args below meth c Q k0 z0 m b n1 D aC pc ls st h := by
  obtain rfl := Nat.eq_of_beq_eq_true hln
  exact jx_s_ifCond C hd (of_decide_eq_true hro) ha kk
theorem jx_d_if_icmp (C : jx_Ctx p R s mm args meth c m b n1 D aC) (hm : m < 216) (hk0 : k0 ≤ h.1) (hz0 : z0 ≤ h.2.1) (hkR : h'.1 - k0 ≤ R.cells) (hzR : h'.2.1 - z0 ≤ R.slots) {q : ClassFile.Cond} {o : Int} {len x y : Nat} {v : Value} (hd : decode (jx_mi m).2.1 pc = .ok (.if_icmp q o, len)) (hln : jx_lenOk (.if_icmp q o) len = true) (hro : jx_rowOk m pc (.if_icmp q o, len, x, y, v) = true) (ha : jx_act pc (.if_icmp q o, len, x, y, v) ls st h = some (.inl (pc', ls', st', h'))) (kk : jx_K p l e R s mm args below meth c Q k0 z0 m b n1 D aC pc' ls' st' h') : jx_K p l e R s mm args below meth c Q k0 z0 m b n1 D aC pc ls st h := by
  obtain rfl := Nat.eq_of_beq_eq_true hln
  exact jx_s_if_icmp C hd (of_decide_eq_true hro) ha kk
theorem jx_d_ifnull (C : jx_Ctx p R s mm args meth c m b n1 D aC) (hm : m < 216) (hk0 : k0 ≤ h.1) (hz0 : z0 ≤ h.2.1) (hkR : h'.1 - k0 ≤ R.cells) (hzR : h'.2.1 - z0 ≤ R.slots) {o : Int} {len x y : Nat} {v : Value} (hd : decode (jx_mi m).2.1 pc = .ok (.ifnull o, len)) (hln : jx_lenOk (.ifnull o) len = true) (hro : jx_rowOk m pc (.ifnull o, len, x, y, v) = true) (ha : jx_act pc (.ifnull o, len, x, y, v) ls st h = some (.inl (pc', ls', st', h'))) (kk : jx_K p l e R s mm args below meth c Q k0 z0 m b n1 D aC pc' ls' st' h') : jx_K p l e R s mm args below meth c Q k0 z0 m b n1 D aC pc ls st h := by
  obtain rfl := Nat.eq_of_beq_eq_true hln
  exact jx_s_ifnull C hd (of_decide_eq_true hro) ha kk
theorem jx_d_ifnonnull (C : jx_Ctx p R s mm args meth c m b n1 D aC) (hm : m < 216) (hk0 : k0 ≤ h.1) (hz0 : z0 ≤ h.2.1) (hkR : h'.1 - k0 ≤ R.cells) (hzR : h'.2.1 - z0 ≤ R.slots) {o : Int} {len x y : Nat} {v : Value} (hd : decode (jx_mi m).2.1 pc = .ok (.ifnonnull o, len)) (hln : jx_lenOk (.ifnonnull o) len = true) (hro : jx_rowOk m pc (.ifnonnull o, len, x, y, v) = true) (ha : jx_act pc (.ifnonnull o, len, x, y, v) ls st h = some (.inl (pc', ls', st', h'))) (kk : jx_K p l e R s mm args below meth c Q k0 z0 m b n1 D aC pc' ls' st' h') : jx_K p l e R s mm args below meth c Q k0 z0 m b n1 D aC pc ls st h := by
  obtain rfl := Nat.eq_of_beq_eq_true hln
  exact jx_s_ifnonnull C hd (of_decide_eq_true hro) ha kk
theorem jx_d_tableswitch (C : jx_Ctx p R s mm args meth c m b n1 D aC) (hm : m < 216) (hk0 : k0 ≤ h.1) (hz0 : z0 ≤ h.2.1) (hkR : h'.1 - k0 ≤ R.cells) (hzR : h'.2.1 - z0 ≤ R.slots) {d lo hi : Int} {offs : Array Int} {len x y : Nat} {v : Value} (hd : decode (jx_mi m).2.1 pc = .ok (.tableswitch d lo hi offs, len)) (hln : jx_lenOk (.tableswitch d lo hi offs) len = true) (hro : jx_rowOk m pc (.tableswitch d lo hi offs, len, x, y, v) = true) (ha : jx_act pc (.tableswitch d lo hi offs, len, x, y, v) ls st h = some (.inl (pc', ls', st', h'))) (kk : jx_K p l e R s mm args below meth c Q k0 z0 m b n1 D aC pc' ls' st' h') : jx_K p l e R s mm args below meth c Q k0 z0 m b n1 D aC pc ls st h := by
  exact jx_s_tableswitch C hd ha kk
theorem jx_d_getfield (C : jx_Ctx p R s mm args meth c m b n1 D aC) (hm : m < 216) (hk0 : k0 ≤ h.1) (hz0 : z0 ≤ h.2.1) (hkR : h'.1 - k0 ≤ R.cells) (hzR : h'.2.1 - z0 ≤ R.slots) {n : Nat} {len x y : Nat} {v : Value} (hd : decode (jx_mi m).2.1 pc = .ok (.getfield n, len)) (hln : jx_lenOk (.getfield n) len = true) (hro : jx_rowOk m pc (.getfield n, len, x, y, v) = true) (ha : jx_act pc (.getfield n, len, x, y, v) ls st h = some (.inl (pc', ls', st', h'))) (kk : jx_K p l e R s mm args below meth c Q k0 z0 m b n1 D aC pc' ls' st' h') : jx_K p l e R s mm args below meth c Q k0 z0 m b n1 D aC pc ls st h := by
  obtain rfl := Nat.eq_of_beq_eq_true hln
  obtain ⟨cx, g1, g2, g3⟩ := jx_pF_get hro
  exact jx_s_getfield C hd g1 g2 g3 ha kk
theorem jx_d_putfield (C : jx_Ctx p R s mm args meth c m b n1 D aC) (hm : m < 216) (hk0 : k0 ≤ h.1) (hz0 : z0 ≤ h.2.1) (hkR : h'.1 - k0 ≤ R.cells) (hzR : h'.2.1 - z0 ≤ R.slots) {n : Nat} {len x y : Nat} {v : Value} (hd : decode (jx_mi m).2.1 pc = .ok (.putfield n, len)) (hln : jx_lenOk (.putfield n) len = true) (hro : jx_rowOk m pc (.putfield n, len, x, y, v) = true) (ha : jx_act pc (.putfield n, len, x, y, v) ls st h = some (.inl (pc', ls', st', h'))) (kk : jx_K p l e R s mm args below meth c Q k0 z0 m b n1 D aC pc' ls' st' h') : jx_K p l e R s mm args below meth c Q k0 z0 m b n1 D aC pc ls st h := by
  obtain rfl := Nat.eq_of_beq_eq_true hln
  obtain ⟨r1, h2⟩ := jx_ro_put hro
  obtain ⟨cx, g1, g2, g3⟩ := jx_pF_get r1
  rw [g1] at h2
  refine jx_s_putfield C hd g1 g2 g3 ?_ ha kk
  rcases (Bool.or_eq_true_iff).mp h2 with h2 | h2
  · refine Or.inl ?_
    revert h2
    cases (cx.2.1 y).2.2.2
    · intro _; rfl
    · intro q; cases q
  · have h3 := (Bool.and_eq_true_iff).mp h2
    exact Or.inr ⟨of_decide_eq_true h3.1, by rw [of_decide_eq_true h3.2, jx_own_name hm]⟩
theorem jx_d_newarray (C : jx_Ctx p R s mm args meth c m b n1 D aC) (hm : m < 216) (hk0 : k0 ≤ h.1) (hz0 : z0 ≤ h.2.1) (hkR : h'.1 - k0 ≤ R.cells) (hzR : h'.2.1 - z0 ≤ R.slots) {t : ArrayType} {len x y : Nat} {v : Value} (hd : decode (jx_mi m).2.1 pc = .ok (.newarray t, len)) (hln : jx_lenOk (.newarray t) len = true) (hro : jx_rowOk m pc (.newarray t, len, x, y, v) = true) (ha : jx_act pc (.newarray t, len, x, y, v) ls st h = some (.inl (pc', ls', st', h'))) (kk : jx_K p l e R s mm args below meth c Q k0 z0 m b n1 D aC pc' ls' st' h') : jx_K p l e R s mm args below meth c Q k0 z0 m b n1 D aC pc ls st h := by
  obtain rfl := Nat.eq_of_beq_eq_true hln
  have hT := jx_ro_new hro
  have hw := jx_all_at jx_tOk_all (List.mem_range.mpr (show x < 8 by omega))
  unfold jx_tOk at hw
  rw [if_pos hT.1] at hw
  exact jx_s_newarray C hd hT.1 hT.2 (jx_wd_in ((Bool.and_eq_true_iff).mp hw).2) hk0 hz0 hkR hzR ha kk
theorem jx_d_anewarray (C : jx_Ctx p R s mm args meth c m b n1 D aC) (hm : m < 216) (hk0 : k0 ≤ h.1) (hz0 : z0 ≤ h.2.1) (hkR : h'.1 - k0 ≤ R.cells) (hzR : h'.2.1 - z0 ≤ R.slots) {n : Nat} {len x y : Nat} {v : Value} (hd : decode (jx_mi m).2.1 pc = .ok (.anewarray n, len)) (hln : jx_lenOk (.anewarray n) len = true) (hro : jx_rowOk m pc (.anewarray n, len, x, y, v) = true) (ha : jx_act pc (.anewarray n, len, x, y, v) ls st h = some (.inl (pc', ls', st', h'))) (kk : jx_K p l e R s mm args below meth c Q k0 z0 m b n1 D aC pc' ls' st' h') : jx_K p l e R s mm args below meth c Q k0 z0 m b n1 D aC pc ls st h := by
  obtain rfl := Nat.eq_of_beq_eq_true hln
  obtain ⟨g1, g2, g3⟩ := jx_pA_get hro
  have hw := jx_all_at jx_tOk_all (List.mem_range.mpr g2)
  unfold jx_tOk at hw
  rw [if_neg (show ¬ x < 4 by omega)] at hw
  obtain ⟨i1, i2⟩ := jx_wn_in ((Bool.and_eq_true_iff).mp ((Bool.and_eq_true_iff).mp hw).2).2
  exact jx_s_anewarray C hd g1 g2 g3 (C.2.2.2.2.2.1 _ i1 i2) hk0 hz0 hkR hzR ha kk
theorem jx_d_new (C : jx_Ctx p R s mm args meth c m b n1 D aC) (hm : m < 216) (hk0 : k0 ≤ h.1) (hz0 : z0 ≤ h.2.1) (hkR : h'.1 - k0 ≤ R.cells) (hzR : h'.2.1 - z0 ≤ R.slots) {n : Nat} {len x y : Nat} {v : Value} (hd : decode (jx_mi m).2.1 pc = .ok (.new n, len)) (hln : jx_lenOk (.new n) len = true) (hro : jx_rowOk m pc (.new n, len, x, y, v) = true) (ha : jx_act pc (.new n, len, x, y, v) ls st h = some (.inl (pc', ls', st', h'))) (kk : jx_K p l e R s mm args below meth c Q k0 z0 m b n1 D aC pc' ls' st' h') : jx_K p l e R s mm args below meth c Q k0 z0 m b n1 D aC pc ls st h := by
  obtain rfl := Nat.eq_of_beq_eq_true hln
  obtain ⟨cx, g1, g2⟩ := jx_pN_get hro
  exact jx_s_new C hd g1 g2 hk0 hz0 hkR hzR ha kk
theorem jx_d_checkcast (C : jx_Ctx p R s mm args meth c m b n1 D aC) (hm : m < 216) (hk0 : k0 ≤ h.1) (hz0 : z0 ≤ h.2.1) (hkR : h'.1 - k0 ≤ R.cells) (hzR : h'.2.1 - z0 ≤ R.slots) {n : Nat} {len x y : Nat} {v : Value} (hd : decode (jx_mi m).2.1 pc = .ok (.checkcast n, len)) (hln : jx_lenOk (.checkcast n) len = true) (hro : jx_rowOk m pc (.checkcast n, len, x, y, v) = true) (ha : jx_act pc (.checkcast n, len, x, y, v) ls st h = some (.inl (pc', ls', st', h'))) (kk : jx_K p l e R s mm args below meth c Q k0 z0 m b n1 D aC pc' ls' st' h') : jx_K p l e R s mm args below meth c Q k0 z0 m b n1 D aC pc ls st h := by
  obtain rfl := Nat.eq_of_beq_eq_true hln
  obtain ⟨g1, g2⟩ := jx_pK_get hro
  exact jx_s_checkcast C hd g1 g2 ha kk
theorem jx_d_invokespecial (C : jx_Ctx p R s mm args meth c m b n1 D aC) (hm : m < 216) (hk0 : k0 ≤ h.1) (hz0 : z0 ≤ h.2.1) (hkR : h'.1 - k0 ≤ R.cells) (hzR : h'.2.1 - z0 ≤ R.slots) {n : Nat} {len x y : Nat} {v : Value} (hd : decode (jx_mi m).2.1 pc = .ok (.invokespecial n, len)) (hln : jx_lenOk (.invokespecial n) len = true) (hro : jx_rowOk m pc (.invokespecial n, len, x, y, v) = true) (ha : jx_act pc (.invokespecial n, len, x, y, v) ls st h = some (.inl (pc', ls', st', h'))) (kk : jx_K p l e R s mm args below meth c Q k0 z0 m b n1 D aC pc' ls' st' h') : jx_K p l e R s mm args below meth c Q k0 z0 m b n1 D aC pc ls st h := by
  obtain rfl := Nat.eq_of_beq_eq_true hln
  obtain ⟨r1, k, rfl, r2, -⟩ := jx_ro_sp hro
  obtain ⟨pos, hp⟩ := jx_pM_get r1
  by_cases hx : x = 4
  · subst hx
    obtain ⟨r3, r4⟩ := r2 rfl
    have hfr := Nat.le_trans r3 C.2.2.2.2.2.2.2.2.1
    have hlo := Nat.le_trans r4 C.2.2.2.2.2.2.2.2.2.1
    exact jx_s_objInit C hd (jx_wd_in hp) hfr hlo ha kk
  · exact (jx_no_sp hx ha).elim
theorem jx_d_invokestatic (C : jx_Ctx p R s mm args meth c m b n1 D aC) (hm : m < 216) (hk0 : k0 ≤ h.1) (hz0 : z0 ≤ h.2.1) (hkR : h'.1 - k0 ≤ R.cells) (hzR : h'.2.1 - z0 ≤ R.slots) {n : Nat} {len x y : Nat} {v : Value} (hd : decode (jx_mi m).2.1 pc = .ok (.invokestatic n, len)) (hln : jx_lenOk (.invokestatic n) len = true) (hro : jx_rowOk m pc (.invokestatic n, len, x, y, v) = true) (ha : jx_act pc (.invokestatic n, len, x, y, v) ls st h = some (.inl (pc', ls', st', h'))) (kk : jx_K p l e R s mm args below meth c Q k0 z0 m b n1 D aC pc' ls' st' h') : jx_K p l e R s mm args below meth c Q k0 z0 m b n1 D aC pc ls st h := by
  obtain rfl := Nat.eq_of_beq_eq_true hln
  obtain ⟨r1, k, rfl, r2, -⟩ := jx_ro_stc hro
  obtain ⟨pos, hp⟩ := jx_pM_get r1
  by_cases hx : x = 6
  · subst hx
    obtain ⟨r3, r4⟩ := r2 rfl
    have hfr := Nat.le_trans r3 C.2.2.2.2.2.2.2.2.1
    have hlo := Nat.le_trans r4 C.2.2.2.2.2.2.2.2.2.1
    exact jx_s_arraycopy C hd (jx_wd_in hp) hfr hlo ha kk
  · exact (jx_no_stc hx ha).elim
theorem jx_d_invokevirtual (C : jx_Ctx p R s mm args meth c m b n1 D aC) (hm : m < 216) (hk0 : k0 ≤ h.1) (hz0 : z0 ≤ h.2.1) (hkR : h'.1 - k0 ≤ R.cells) (hzR : h'.2.1 - z0 ≤ R.slots) {n : Nat} {len x y : Nat} {v : Value} (hd : decode (jx_mi m).2.1 pc = .ok (.invokevirtual n, len)) (hln : jx_lenOk (.invokevirtual n) len = true) (hro : jx_rowOk m pc (.invokevirtual n, len, x, y, v) = true) (ha : jx_act pc (.invokevirtual n, len, x, y, v) ls st h = some (.inl (pc', ls', st', h'))) (kk : jx_K p l e R s mm args below meth c Q k0 z0 m b n1 D aC pc' ls' st' h') : jx_K p l e R s mm args below meth c Q k0 z0 m b n1 D aC pc ls st h := by
  obtain rfl := Nat.eq_of_beq_eq_true hln
  obtain ⟨r1, k, rfl, r2, -⟩ := jx_ro_vir hro
  obtain ⟨pos, hp⟩ := jx_pM_get r1
  by_cases hx : x = 5
  · subst hx
    obtain ⟨r3, r4⟩ := r2 rfl
    have hfr := Nat.le_trans r3 C.2.2.2.2.2.2.2.2.1
    have hlo := Nat.le_trans r4 C.2.2.2.2.2.2.2.2.2.1
    have hp2 := (Bool.and_eq_true_iff).mp hp
    have hp3 := (Bool.and_eq_true_iff).mp hp2.1
    have hp4 := (Bool.and_eq_true_iff).mp hp3.1
    have hp5 := (Bool.and_eq_true_iff).mp hp4.1
    obtain ⟨i1, i2⟩ := jx_wn_in hp3.2
    exact jx_s_clone C hd (jx_wd_in hp5.1) (jx_wd_in hp5.2) (jx_wd_in hp4.2) (C.2.2.2.2.2.1 _ i1 i2) hfr hlo hk0 hz0 hkR hzR ha kk
  · exact (jx_no_vir hx ha).elim
end JXD
