/-- answers and calls are no next place -/
theorem jx_no_ret {pc : Nat} {i : Instr} {len x y : Nat} {v : Value} {ls st : List Value} {h : jx_H} {q : Nat × List Value × List Value × jx_H} (hi : i = .ireturn ∨ i = .lreturn ∨ i = .areturn ∨ i = .return_) (ha : jx_act pc (i, len, x, y, v) ls st h = some (.inl q)) : False := by
  rcases hi with rfl | rfl | rfl | rfl
  · simp only [jx_act] at ha
    split at ha
    · split at ha <;> cases ha
    · cases ha
  · simp only [jx_act] at ha
    split at ha <;> cases ha
  · simp only [jx_act] at ha
    split at ha <;> cases ha
  · simp only [jx_act] at ha
    split at ha <;> cases ha
section JXE
variable {p : Program} {l : Launch} {e : Env} {R : Room} {s : State} {mm : MethodId} {args : Array Value} {below : List Frame} {meth : Method} {c : Code} {Q : State → Prop} {k0 z0 m b n1 : Nat} {D : va_G} {aC : Nat → ClassId} {pc : Nat} {ls st : List Value} {h : jx_H} {pc' : Nat} {ls' st' : List Value} {h' : jx_H}
set_option maxHeartbeats 4000000 in
theorem jx_step (C : jx_Ctx p R s mm args meth c m b n1 D aC) {r : jx_Row} (hrc : jx_rc m pc = some r) (hk0 : k0 ≤ h.1) (hz0 : z0 ≤ h.2.1) (hkR : h'.1 - k0 ≤ R.cells) (hzR : h'.2.1 - z0 ≤ R.slots) (ha : jx_act pc r ls st h = some (.inl (pc', ls', st', h'))) (kk : jx_K p l e R s mm args below meth c Q k0 z0 m b n1 D aC pc' ls' st' h') : jx_K p l e R s mm args below meth c Q k0 z0 m b n1 D aC pc ls st h := by
  have hok := jx_rc_ok hrc
  have hm := jx_rc_lt hrc
  obtain ⟨i, len, x, y, v⟩ := r
  unfold jx_ok at hok
  obtain ⟨hok2, hro⟩ := (Bool.and_eq_true_iff).mp hok
  obtain ⟨hd, hln⟩ := (Bool.and_eq_true_iff).mp hok2
  replace hd := of_decide_eq_true hd
  dsimp only at hd hln
  clear hok hok2 hrc
  cases i
  case iadd => exact jx_d_iadd C hm hk0 hz0 hkR hzR hd hln hro ha kk
  case isub => exact jx_d_isub C hm hk0 hz0 hkR hzR hd hln hro ha kk
  case imul => exact jx_d_imul C hm hk0 hz0 hkR hzR hd hln hro ha kk
  case iand => exact jx_d_iand C hm hk0 hz0 hkR hzR hd hln hro ha kk
  case ior => exact jx_d_ior C hm hk0 hz0 hkR hzR hd hln hro ha kk
  case ixor => exact jx_d_ixor C hm hk0 hz0 hkR hzR hd hln hro ha kk
  case ineg => exact jx_d_ineg C hm hk0 hz0 hkR hzR hd hln hro ha kk
  case ishl => exact jx_d_ishl C hm hk0 hz0 hkR hzR hd hln hro ha kk
  case ishr => exact jx_d_ishr C hm hk0 hz0 hkR hzR hd hln hro ha kk
  case iushr => exact jx_d_iushr C hm hk0 hz0 hkR hzR hd hln hro ha kk
  case ladd => exact jx_d_ladd C hm hk0 hz0 hkR hzR hd hln hro ha kk
  case lsub => exact jx_d_lsub C hm hk0 hz0 hkR hzR hd hln hro ha kk
  case lmul => exact jx_d_lmul C hm hk0 hz0 hkR hzR hd hln hro ha kk
  case lxor => exact jx_d_lxor C hm hk0 hz0 hkR hzR hd hln hro ha kk
  case lneg => exact jx_d_lneg C hm hk0 hz0 hkR hzR hd hln hro ha kk
  case lcmp => exact jx_d_lcmp C hm hk0 hz0 hkR hzR hd hln hro ha kk
  case i2l => exact jx_d_i2l C hm hk0 hz0 hkR hzR hd hln hro ha kk
  case l2i => exact jx_d_l2i C hm hk0 hz0 hkR hzR hd hln hro ha kk
  case i2b => exact jx_d_i2b C hm hk0 hz0 hkR hzR hd hln hro ha kk
  case i2s => exact jx_d_i2s C hm hk0 hz0 hkR hzR hd hln hro ha kk
  case idiv => exact jx_d_idiv C hm hk0 hz0 hkR hzR hd hln hro ha kk
  case irem => exact jx_d_irem C hm hk0 hz0 hkR hzR hd hln hro ha kk
  case ldiv => exact jx_d_ldiv C hm hk0 hz0 hkR hzR hd hln hro ha kk
  case aconst_null => exact jx_d_aconst_null C hm hk0 hz0 hkR hzR hd hln hro ha kk
  case dup => exact jx_d_dup C hm hk0 hz0 hkR hzR hd hln hro ha kk
  case pop => exact jx_d_pop C hm hk0 hz0 hkR hzR hd hln hro ha kk
  case dup2 => exact jx_d_dup2 C hm hk0 hz0 hkR hzR hd hln hro ha kk
  case iaload => exact jx_d_iaload C hm hk0 hz0 hkR hzR hd hln hro ha kk
  case baload => exact jx_d_baload C hm hk0 hz0 hkR hzR hd hln hro ha kk
  case laload => exact jx_d_laload C hm hk0 hz0 hkR hzR hd hln hro ha kk
  case aaload => exact jx_d_aaload C hm hk0 hz0 hkR hzR hd hln hro ha kk
  case iastore => exact jx_d_iastore C hm hk0 hz0 hkR hzR hd hln hro ha kk
  case bastore => exact jx_d_bastore C hm hk0 hz0 hkR hzR hd hln hro ha kk
  case lastore => exact jx_d_lastore C hm hk0 hz0 hkR hzR hd hln hro ha kk
  case aastore => exact jx_d_aastore C hm hk0 hz0 hkR hzR hd hln hro ha kk
  case arraylength => exact jx_d_arraylength C hm hk0 hz0 hkR hzR hd hln hro ha kk
  case iconst n => exact jx_d_iconst C hm hk0 hz0 hkR hzR hd hln hro ha kk
  case bipush n => exact jx_d_bipush C hm hk0 hz0 hkR hzR hd hln hro ha kk
  case sipush n => exact jx_d_sipush C hm hk0 hz0 hkR hzR hd hln hro ha kk
  case lconst n => exact jx_d_lconst C hm hk0 hz0 hkR hzR hd hln hro ha kk
  case ldc n => exact jx_d_ldc C hm hk0 hz0 hkR hzR hd hln hro ha kk
  case ldc_w n => exact jx_d_ldc_w C hm hk0 hz0 hkR hzR hd hln hro ha kk
  case ldc2_w n => exact jx_d_ldc2_w C hm hk0 hz0 hkR hzR hd hln hro ha kk
  case iload n => exact jx_d_iload C hm hk0 hz0 hkR hzR hd hln hro ha kk
  case iload_n n => exact jx_d_iload_n C hm hk0 hz0 hkR hzR hd hln hro ha kk
  case lload n => exact jx_d_lload C hm hk0 hz0 hkR hzR hd hln hro ha kk
  case lload_n n => exact jx_d_lload_n C hm hk0 hz0 hkR hzR hd hln hro ha kk
  case aload n => exact jx_d_aload C hm hk0 hz0 hkR hzR hd hln hro ha kk
  case aload_n n => exact jx_d_aload_n C hm hk0 hz0 hkR hzR hd hln hro ha kk
  case istore n => exact jx_d_istore C hm hk0 hz0 hkR hzR hd hln hro ha kk
  case istore_n n => exact jx_d_istore_n C hm hk0 hz0 hkR hzR hd hln hro ha kk
  case lstore n => exact jx_d_lstore C hm hk0 hz0 hkR hzR hd hln hro ha kk
  case lstore_n n => exact jx_d_lstore_n C hm hk0 hz0 hkR hzR hd hln hro ha kk
  case astore n => exact jx_d_astore C hm hk0 hz0 hkR hzR hd hln hro ha kk
  case astore_n n => exact jx_d_astore_n C hm hk0 hz0 hkR hzR hd hln hro ha kk
  case iinc n k => exact jx_d_iinc C hm hk0 hz0 hkR hzR hd hln hro ha kk
  case goto o => exact jx_d_goto C hm hk0 hz0 hkR hzR hd hln hro ha kk
  case ifCond q o => exact jx_d_ifCond C hm hk0 hz0 hkR hzR hd hln hro ha kk
  case if_icmp q o => exact jx_d_if_icmp C hm hk0 hz0 hkR hzR hd hln hro ha kk
  case ifnull o => exact jx_d_ifnull C hm hk0 hz0 hkR hzR hd hln hro ha kk
  case ifnonnull o => exact jx_d_ifnonnull C hm hk0 hz0 hkR hzR hd hln hro ha kk
  case tableswitch d lo hi offs => exact jx_d_tableswitch C hm hk0 hz0 hkR hzR hd hln hro ha kk
  case getfield n => exact jx_d_getfield C hm hk0 hz0 hkR hzR hd hln hro ha kk
  case putfield n => exact jx_d_putfield C hm hk0 hz0 hkR hzR hd hln hro ha kk
  case newarray t => exact jx_d_newarray C hm hk0 hz0 hkR hzR hd hln hro ha kk
  case anewarray n => exact jx_d_anewarray C hm hk0 hz0 hkR hzR hd hln hro ha kk
  case new n => exact jx_d_new C hm hk0 hz0 hkR hzR hd hln hro ha kk
  case checkcast n => exact jx_d_checkcast C hm hk0 hz0 hkR hzR hd hln hro ha kk
  case invokespecial n => exact jx_d_invokespecial C hm hk0 hz0 hkR hzR hd hln hro ha kk
  case invokestatic n => exact jx_d_invokestatic C hm hk0 hz0 hkR hzR hd hln hro ha kk
  case invokevirtual n => exact jx_d_invokevirtual C hm hk0 hz0 hkR hzR hd hln hro ha kk
  case ireturn => exact (jx_no_ret (Or.inl rfl) ha).elim
  case lreturn => exact (jx_no_ret (Or.inr (Or.inl rfl)) ha).elim
  case areturn => exact (jx_no_ret (Or.inr (Or.inr (Or.inl rfl))) ha).elim
  case return_ => exact (jx_no_ret (Or.inr (Or.inr (Or.inr rfl))) ha).elim
  all_goals
    simp only [jx_act] at ha
    cases ha
end JXE
