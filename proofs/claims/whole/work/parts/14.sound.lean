/-! SOUNDNESS, seventh: calls, and the whole of a run -/
theorem jx_nw_moved {w : Cond} {s U : State} (hn : jx_isN w = true) (hW : s.WarmedH U.vm) (h : va_Nw w s) : va_Nw w U := by
  unfold jx_isN at hn
  split at hn
  · exact va_Nw.warmM hW h
  · exact va_Nw.warmC hW h
  · exact va_AO.moved hW.alike h
  · cases hn
def jx_Pc (b n1 : Nat) (D : va_G) (aC : Nat → ClassId) (vs : List Value) (h : jx_H) : Array Value → State → Prop := fun a U => a = (vs.map (jx_cv b n1)).toArray ∧ jx_Rep b n1 D aC U h U.heap ∧ va_K D jx_cl (jx_tys aC) U ∧ ∀ w ∈ tables_1, jx_isN w = true → va_Nw w U
def jx_Qc (b n1 : Nat) (D : va_G) (aC : Nat → ClassId) (r : Option Value) (h' : jx_H) : Array Value → State → Outcome → State → Prop := fun _ st o t => o = .returned (r.map (jx_cv b n1)) ∧ jx_Rep b n1 D aC t h' t.heap ∧ va_F (fun q => n1 < q) st t
def jx_ws (m : Nat) : List Cond := .code (jx_mi m).1 (jx_mi m).2.1 (jx_mi m).2.2.1 (jx_mi m).2.2.2.1 :: jx_big
def jx_Met (l : Launch) (b n1 : Nat) (D : va_G) (aC : Nat → ClassId) (m : Nat) (vs : List Value) (h : jx_H) (r : Option Value) (h' : jx_H) : Prop :=
  Met l (jx_mi m).1 (jx_ws m) { frames := (jx_mi m).2.2.2.2.2.1, cells := h'.1 - h.1, slots := h'.2.1 - h.2.1, locals := (jx_mi m).2.2.2.2.2.2 } (jx_Pc b n1 D aC vs h) (jx_Qc b n1 D aC r h') (h'.1 - h.1) (h'.2.1 - h.2.1) (fun q => n1 < q)
theorem jx_blind (b n1 : Nat) (D : va_G) (aC : Nat → ClassId) (vs : List Value) (h : jx_H) : FrameBlind (jx_Pc b n1 D aC vs h) := by
  intro a U g mk hP
  obtain ⟨h1, h2, h3, h4⟩ := hP
  exact ⟨h1, jx_Rep.moved (s := U) (U := U.calling g mk a) (Vm.Alike.refl U.vm) h2, va_K.moved (u := U) (U := U.calling g mk a) (Vm.Alike.refl U.vm) h3, fun w hw hn => jx_nw_moved (s := U) (U := U.calling g mk a) hn (State.WarmedH.refl U) (h4 w hw hn)⟩
/-- what the tables say of a callee -/
theorem jx_yok {cal : Nat} (h : cal ≤ 214) : ∃ q, jx_pY[cal]? = some q ∧ Cond.code (jx_mi cal).1 (jx_mi cal).2.1 (jx_mi cal).2.2.1 (jx_mi cal).2.2.2.1 ∈ jx_big ∧ Cond.initialized (jx_mi cal).1.cls ∈ jx_big ∧ plainFor (jx_mi cal).1 = true ∧ (jx_mi cal).1.cls = jx_cn (jx_mi cal).2.2.2.2.1 ∧ ((jx_mi cal).1.cls ≠ "java/lang/invoke/MethodHandle" ∧ (jx_mi cal).1.cls ≠ "java/lang/invoke/VarHandle") ∧ (q.2.2.2.2 = 0 → Cond.instanceMethod (jx_mi cal).1 ∈ jx_big ∧ Cond.selects (jx_mi cal).1.cls (jx_mi cal).1 (jx_mi cal).1 ∈ jx_big ∧ (jx_mi cal).2.2.2.2.1 < 13) ∧ (q.2.2.2.2 = 1 → Cond.instanceMethod (jx_mi cal).1 ∈ jx_big ∧ (jx_mi cal).1.name = "<init>" ∧ (jx_mi cal).2.2.2.1 = none) ∧ (q.2.2.2.2 = 2 → Cond.static (jx_mi cal).1 ∈ jx_big) := by
  have h1 := jx_all_at jx_yOk_all (List.mem_range.mpr (show cal < 215 by omega))
  unfold jx_yOk at h1
  split at h1
  · rename_i q hq
    simp only [Bool.and_eq_true, decide_eq_true_eq] at h1
    obtain ⟨⟨⟨⟨⟨h2, h3⟩, h4⟩, h5⟩, h6⟩, h7⟩ := h1
    have hcode : Cond.code (jx_mi cal).1 (jx_mi cal).2.1 (jx_mi cal).2.2.1 (jx_mi cal).2.2.2.1 ∈ tables_1 := by
      have hl : cal < jx_mt.length := by have : jx_mt.length = 216 := rfl; omega
      have hmi : jx_mt[cal]? = some (jx_mi cal) := by
        rw [List.getElem?_eq_getElem hl]
        unfold jx_mi
        rw [List.getD_eq_getElem?_getD, List.getElem?_eq_getElem hl]
        rfl
      obtain ⟨p, hp⟩ : ∃ p, (jx_cps)[cal]? = some p := ⟨_, List.getElem?_eq_getElem (by have : jx_cps.length = 215 := rfl; omega)⟩
      exact jx_codes_at jx_cps jx_mt cal p _ jx_codes_all hp hmi
    refine ⟨q, hq, List.mem_filter.mpr ⟨List.mem_append_right _ hcode, rfl⟩, jx_wd_in h2, jx_pl_for h3, h4, ⟨h5, h6⟩, fun hz => ?_, fun hz => ?_, fun hz => ?_⟩
    · rw [hz] at h7
      simp only [Bool.and_eq_true] at h7
      exact ⟨jx_wd_in h7.1.1, jx_wl_in h7.1.2, Nat.le_of_ble_eq_true h7.2⟩
    · rw [hz] at h7
      simp only [Bool.and_eq_true, decide_eq_true_eq] at h7
      exact ⟨jx_wd_in h7.1.1, h7.1.2, h7.2⟩
    · rw [hz] at h7
      exact jx_wd_in h7
  · cases h1
theorem jx_nc_sp {pc n len x y : Nat} {v : Value} {ls st : List Value} {h : jx_H} {q : Nat × List Value × List Value} (hx : x = 4) (ha : jx_act pc (.invokespecial n, len, x, y, v) ls st h = some (.inr (.inr q))) : False := by
  simp only [jx_act] at ha
  split at ha
  · rw [if_pos hx] at ha
    split at ha
    · split at ha <;> cases ha
    · cases ha
  · cases ha
theorem jx_nc_stc {pc n len x y : Nat} {v : Value} {ls st : List Value} {h : jx_H} {q : Nat × List Value × List Value} (hx : x = 6) (ha : jx_act pc (.invokestatic n, len, x, y, v) ls st h = some (.inr (.inr q))) : False := by
  simp only [jx_act] at ha
  split at ha
  · rw [if_pos hx] at ha
    split at ha
    · split at ha
      · split at ha <;> cases ha
      · cases ha
    · cases ha
  · cases ha
theorem jx_nc_vir {pc n len x y : Nat} {v : Value} {ls st : List Value} {h : jx_H} {q : Nat × List Value × List Value} (hx : x = 5) (ha : jx_act pc (.invokevirtual n, len, x, y, v) ls st h = some (.inr (.inr q))) : False := by
  simp only [jx_act] at ha
  split at ha
  · rw [if_pos hx] at ha
    split at ha
    · split at ha
      · split at ha <;> cases ha
      · split at ha <;> cases ha
      · cases ha
    · cases ha
  · cases ha
section JXC
variable {p : Program} {l : Launch} {e : Env} {R : Room} {s : State} {mm : MethodId} {args : Array Value} {below : List Frame} {meth : Method} {c : Code} {Q : State → Prop} {k0 z0 m b n1 : Nat} {D : va_G} {aC : Nat → ClassId} {pc : Nat} {ls st : List Value} {h h' : jx_H}
theorem jx_words (C : jx_Ctx p R s mm args meth c m b n1 D aC) {cal : Nat} (hc : cal ≤ 214) : ∀ w ∈ jx_ws cal, ∀ (a' : Array Value) (U : State), s.WarmedH U.vm → w.before a' U = true := by
  intro w hw a' U hW
  have hb : w ∈ jx_big := by
    rcases List.mem_cons.mp hw with rfl | hw
    · obtain ⟨q, -, h1, -⟩ := jx_yok hc
      exact h1
    · exact hw
  exact word_at hW (good_of_word (List.mem_filter.mp hb).2) (C.2.2.2.2.1 _ hb)
/-- behind a call -/
theorem jx_call_go (C : jx_Ctx p R s mm args meth c m b n1 D aC) {arr : Array Slot} {H : Heap} {locs : List Loc} {st0 rest : List Value} {r : Option Value} {a : Array Value} (hm1 : h.1 ≤ h'.1) (hm2 : h.2.1 ≤ h'.2.1) (hk0 : k0 ≤ h.1) (hz0 : z0 ≤ h.2.1) (hL : jx_LR b n1 ls arr (jx_mi m).2.2.1) (hS : va_S (fun q => n1 < q) s.heap H locs) (hr : va_Run p l e R s mm args below meth c H locs (h.1 - k0) (h.2.1 - z0) (h'.1 - h.1) (h'.2.1 - h.2.1) (F0 mm pc arr st0) (rest.map (jx_cv b n1)) (jx_Qc b n1 D aC r h' a) (fun q => n1 < q)) (kk : jx_K p l e R s mm args below meth c Q k0 z0 m b n1 D aC (pc + 3) ls (r.toList ++ rest) h') : W p l e R s mm args below meth c H locs (h.1 - k0) (h.2.1 - z0) Q (F0 mm pc arr st0) := by
  intro T hT X
  obtain ⟨v, st₀, t, T', L, h0, X', hLo, e1, e2, ⟨hv, hRt, hz, hk⟩, stp⟩ := hr T hT X
  cases hv
  rw [h0] at hz hk
  have hal : s.vm.Alike t.vm := by rw [← e2]; exact X'.warmed.alike
  have hR' : jx_Rep b n1 D aC s h' T'.heap := by rw [e1]; exact hRt.moved hal.symm
  have hS' : va_S (fun q => n1 < q) s.heap T'.heap (locs ++ L) := ⟨Nat.le_trans hS.1 (by rw [e1]; exact hz), fun q g1 g2 => by rw [e1, hk q (Nat.lt_of_lt_of_le g1 hS.1) g2]; exact hS.2.1 q g1 g2, fun q hq => by
      rcases List.mem_append.mp hq with h | h
      · exact hS.2.2 q h
      · exact hLo q h⟩
  have X2 : Stand p l e R s mm args below meth c T' (locs ++ L) (h'.1 - k0) (h'.2.1 - z0) := by
    have ea : h.1 - k0 + (h'.1 - h.1) = h'.1 - k0 := by omega
    have eb : h.2.1 - z0 + (h'.2.1 - h.2.1) = h'.2.1 - z0 := by omega
    rw [ea, eb] at X'
    exact X'
  obtain ⟨t2, a1, b1⟩ := kk arr T'.heap (locs ++ L) hL hR' hS' T' rfl X2
  refine ⟨t2, stp t2 ?_, b1⟩
  have hst : (r.map (jx_cv b n1)).toList ++ rest.map (jx_cv b n1) = (r.toList ++ rest).map (jx_cv b n1) := by cases r <;> rfl
  rw [hst]
  exact a1
theorem jx_pre (C : jx_Ctx p R s mm args meth c m b n1 D aC) {H : Heap} (hR : jx_Rep b n1 D aC s h H) (vs : List Value) : ∀ U : State, U.heap = H → s.WarmedH U.vm → jx_Pc b n1 D aC vs h (vs.map (jx_cv b n1)).toArray U :=
  fun U hU hW => ⟨rfl, by rw [hU]; exact hR.moved hW.alike, va_K.moved hW.alike C.2.2.2.2.2.2.1, fun w hw hn => jx_nw_moved hn hW (C.2.2.2.2.2.1 w hw hn)⟩
theorem jx_stk {st rest : List Value} {n a : Nat} (hd : st.drop n = .ref a :: rest) : (st.take n).length = n ∧ st.map (jx_cv b n1) = (((st.take n).reverse).map (jx_cv b n1)).reverse ++ .ref (jx_ad b n1 a) :: rest.map (jx_cv b n1) := by
  have hl : n < st.length := by
    rcases Nat.lt_or_ge n st.length with q | q
    · exact q
    · rw [List.drop_eq_nil_of_le q] at hd; cases hd
  refine ⟨by rw [List.length_take]; omega, ?_⟩
  conv => lhs; rw [← List.take_append_drop n st, hd]
  rw [List.map_append, List.map_reverse, List.reverse_reverse]
  rfl
set_option maxHeartbeats 4000000 in
theorem jx_call (C : jx_Ctx p R s mm args meth c m b n1 D aC) {row : jx_Row} (hrc : jx_rc m pc = some row) (hk0 : k0 ≤ h.1) (hz0 : z0 ≤ h.2.1) (hm1 : h.1 ≤ h'.1) (hm2 : h.2.1 ≤ h'.2.1) (hkR : h'.1 - k0 ≤ R.cells) (hzR : h'.2.1 - z0 ≤ R.slots) {cal : Nat} {vs rest : List Value} {r : Option Value} (ha : jx_act pc row ls st h = some (.inr (.inr (cal, vs, rest)))) (hM : jx_Met l b n1 D aC cal vs h r h') (kk : jx_K p l e R s mm args below meth c Q k0 z0 m b n1 D aC (pc + 3) ls (r.toList ++ rest) h') : jx_K p l e R s mm args below meth c Q k0 z0 m b n1 D aC pc ls st h := by
  have hok := jx_rc_ok hrc
  obtain ⟨i, len, x, y, v⟩ := row
  unfold jx_ok at hok
  obtain ⟨hok2, hro⟩ := (Bool.and_eq_true_iff).mp hok
  obtain ⟨hd, hln⟩ := (Bool.and_eq_true_iff).mp hok2
  replace hd := of_decide_eq_true hd
  dsimp only at hd hln
  have hfr := C.2.2.2.2.2.2.2.2.1
  have hlo := C.2.2.2.2.2.2.2.2.2.1
  have hfit : h.1 - k0 + (h'.1 - h.1) ≤ R.cells ∧ h.2.1 - z0 + (h'.2.1 - h.2.1) ≤ R.slots := ⟨by omega, by omega⟩
  have room : ∀ {cal : Nat} {n : Int32}, jx_callOk m cal n = true → cal ≤ 214 ∧ (jx_mi cal).2.2.2.2.2.1 + 1 ≤ R.frames ∧ 8 + ((jx_mi cal).2.2.1 + 11) + (jx_mi cal).2.2.2.2.2.2 ≤ R.locals ∧ ∀ sig, parseMethodDescriptor (jx_mi cal).1.desc = some sig → n.toNatClampNeg = sig.parameters.length := by
    intro cal n hc
    simp only [jx_callOk, jx_roomOk, Bool.and_eq_true, decide_eq_true_eq] at hc
    refine ⟨Nat.le_of_ble_eq_true hc.1.1, Nat.le_trans (Nat.le_of_ble_eq_true hc.1.2.1) hfr, Nat.le_trans (Nat.le_of_ble_eq_true hc.1.2.2) hlo, fun sig hs => ?_⟩
    have := hc.2
    rw [hs] at this
    exact (Option.some.inj this).symm
  cases i
  case invokevirtual n =>
    obtain rfl := Nat.eq_of_beq_eq_true hln
    obtain ⟨r0, k, rfl, -, r00⟩ := jx_ro_vir hro
    obtain ⟨pos, hp⟩ := jx_pM_get r0
    have ha0 := ha
    simp only [jx_act] at ha
    by_cases hx : x = 5
    · exfalso
      exact jx_nc_vir hx ha0
    · rw [if_neg hx] at ha
      obtain ⟨rfl, h4⟩ := r00 hx
      split at ha
      · rename_i a rest' hdr
        split at ha
        · rename_i ci fs he
          split at ha
          · rename_i hc
            cases ha
            obtain ⟨hcal, r1, r2, r3⟩ := room h4
            obtain ⟨q, hq, y1, y2, y3, y4, y5, y6, -, -⟩ := jx_yok hcal
            simp only [jx_mOk, Bool.and_eq_true] at hp
            have hq0 : q.2.2.2.2 = 0 := by
              have := Nat.eq_of_beq_eq_true hp.2
              rw [List.getD_eq_getElem?_getD, hq] at this
              exact this
            obtain ⟨y7, y8, y9⟩ := y6 hq0
            refine fun arr H locs hL hR hS => ?_
            obtain ⟨e1, e2, e3, e4⟩ := hR.cell he (fun x q => by cases q)
            obtain ⟨t1, t2⟩ := jx_stk (b := b) (n1 := n1) hdr
            have hrecv : ∃ cellB : Cell, H[n1 + a]? = some cellB ∧ cellB.vm.isStatics = false ∧ s.vm.findClass (jx_mi cal).1.cls = some cellB.cls := by
              obtain ⟨rr, g1, cell, g2, g3, g4, -⟩ := e4
              refine ⟨cell, g2, by rw [g4]; rfl, ?_⟩
              rw [g3, y4, ← hc.2, (jx_cls g1).1]
              exact (C.2.2.2.2.2.2.1.1 _ _ g1).2.1
            rcases hc.1 with h8 | ⟨h68, h9⟩
            · refine jx_call_go C hm1 hm2 hk0 hz0 hL hS (va_runV (Ts := jx_big) (C := (jx_mi cal).1.cls) (own := jx_cn (jx_mi m).2.2.2.2.1) (As := ((st.take k.toNatClampNeg).reverse).map (jx_cv b n1)) (b := n1 + a) (n := k.toNatClampNeg) ⟨C.1, C.2.1, C.2.2.1, C.2.2.2.1, C.2.2.2.2.1⟩ hM ⟨⟨rfl, rfl, r1, r2, jx_words C hcal, List.mem_cons_self, C.2.2.2.2.1 _ y1, C.2.2.2.2.1 _ y2, y5, r3, C.2.2.2.2.1 _ (jx_wd_in hp.1)⟩, C.2.2.2.2.1 _ y7, C.2.2.2.2.1 _ y8⟩ ⟨jx_blind b n1 D aC _ h, hrecv, fun U hU hW => ?_⟩ rfl (by rw [List.length_map, List.length_reverse]; exact t1) hL.1 ?_ ?_ hd hfit) kk
              · have := jx_pre C hR (.ref a :: (st.take k.toNatClampNeg).reverse) U hU hW
                have e5 : (Value.ref a :: (st.take k.toNatClampNeg).reverse).map (jx_cv b n1) = Value.ref (n1 + a) :: ((st.take k.toNatClampNeg).reverse).map (jx_cv b n1) := by
                  show Value.ref (jx_ad b n1 a) :: _ = _
                  rw [e1]
                rw [e5] at this
                exact this
              · rw [← e1]; exact t2
              · show 2 * 0 + _ ≤ 8
                rw [jx_cat_map]
                have := h8
                omega
            · refine jx_call_go C hm1 hm2 hk0 hz0 hL hS (jx_runV9 (Ts := jx_big) (C := (jx_mi cal).1.cls) (own := jx_cn (jx_mi m).2.2.2.2.1) (As := ((st.take k.toNatClampNeg).reverse).map (jx_cv b n1)) (b := n1 + a) (n := k.toNatClampNeg) ⟨C.1, C.2.1, C.2.2.1, C.2.2.2.1, C.2.2.2.2.1⟩ hM ⟨⟨rfl, rfl, r1, r2, jx_words C hcal, List.mem_cons_self, C.2.2.2.2.1 _ y1, C.2.2.2.2.1 _ y2, y5, r3, C.2.2.2.2.1 _ (jx_wd_in hp.1)⟩, C.2.2.2.2.1 _ y7, C.2.2.2.2.1 _ y8⟩ (by subst h68; exact Nat.le_trans (jx_room68 hrc r0 h4) hlo) ⟨jx_blind b n1 D aC _ h, hrecv, fun U hU hW => ?_⟩ rfl (by rw [List.length_map, List.length_reverse]; exact t1) hL.1 ?_ ?_ hd hfit) kk
              · have := jx_pre C hR (.ref a :: (st.take k.toNatClampNeg).reverse) U hU hW
                have e5 : (Value.ref a :: (st.take k.toNatClampNeg).reverse).map (jx_cv b n1) = Value.ref (n1 + a) :: ((st.take k.toNatClampNeg).reverse).map (jx_cv b n1) := by
                  show Value.ref (jx_ad b n1 a) :: _ = _
                  rw [e1]
                rw [e5] at this
                exact this
              · rw [← e1]; exact t2
              · show 2 * 0 + _ ≤ 9
                rw [jx_cat_map]
                have := h9
                omega
          · cases ha
        · cases ha
      · cases ha
  case invokespecial n =>
    obtain rfl := Nat.eq_of_beq_eq_true hln
    obtain ⟨r0, k, rfl, -, r00⟩ := jx_ro_sp hro
    obtain ⟨pos, hp⟩ := jx_pM_get r0
    have ha0 := ha
    simp only [jx_act] at ha
    by_cases hx : x = 4
    · exfalso
      exact jx_nc_sp hx ha0
    · rw [if_neg hx] at ha
      have h4 := r00 hx
      split at ha
      · rename_i a rest' hdr
        split at ha
        · rename_i hc
          cases ha
          obtain ⟨hcal, r1, r2, r3⟩ := room h4.2
          obtain ⟨q, hq, y1, y2, y3, y4, y5, -, y6, -⟩ := jx_yok hcal
          have hq1 : q.2.2.2.2 = 1 := by
            have : (jx_pY.getD cal (0, 0, 0, 0, 9)).2.2.2.2 = 1 := by
              rcases h4.1 with hx1 | hx1
              · subst hx1
                simp only [jx_mOk, Bool.and_eq_true] at hp
                exact Nat.eq_of_beq_eq_true hp.2
              · subst hx1
                simp only [jx_mOk, Bool.and_eq_true] at hp
                exact Nat.eq_of_beq_eq_true hp.2
            rw [List.getD_eq_getElem?_getD, hq] at this
            exact this
          obtain ⟨y7, y8, y9⟩ := y6 hq1
          refine fun arr H locs hL hR hS => ?_
          obtain ⟨t1, t2⟩ := jx_stk (b := b) (n1 := n1) hdr
          have hpre := jx_pre C hR (.ref a :: (st.take k.toNatClampNeg).reverse)
          have hcat : 2 * (F0 mm pc arr (st.map (jx_cv b n1))).monitorRoom + ((rest.map (jx_cv b n1)).map fun v => v.category).sum ≤ 8 := by
            show 2 * 0 + _ ≤ 8
            rw [jx_cat_map]
            omega
          have hM2 : Met l (jx_mi cal).1 (Cond.code (jx_mi cal).1 (jx_mi cal).2.1 (jx_mi cal).2.2.1 none :: jx_big) { frames := (jx_mi cal).2.2.2.2.2.1, cells := h'.1 - h.1, slots := h'.2.1 - h.2.1, locals := (jx_mi cal).2.2.2.2.2.2 } (jx_Pc b n1 D aC (.ref a :: (st.take k.toNatClampNeg).reverse) h) (jx_Qc b n1 D aC r h') (h'.1 - h.1) (h'.2.1 - h.2.1) (fun q => n1 < q) := by
            have := hM
            unfold jx_Met jx_ws at this
            rw [y9] at this
            exact this
          have hws : ∀ w ∈ (Cond.code (jx_mi cal).1 (jx_mi cal).2.1 (jx_mi cal).2.2.1 none :: jx_big), ∀ (a' : Array Value) (U : State), s.WarmedH U.vm → w.before a' U = true := by
            have := jx_words C hcal
            unfold jx_ws at this
            rw [y9] at this
            exact this
          have hcode := C.2.2.2.2.1 _ y1
          rw [y9] at hcode
          rcases h4.1 with hx1 | hx1
          · subst hx1
            simp only [jx_mOk, Bool.and_eq_true] at hp
            refine jx_call_go C hm1 hm2 hk0 hz0 hL hS (va_runI (Ts := jx_big) (own := jx_cn (jx_mi m).2.2.2.2.1) (As := ((st.take k.toNatClampNeg).reverse).map (jx_cv b n1)) (b := jx_ad b n1 a) (n := k.toNatClampNeg) ⟨C.1, C.2.1, C.2.2.1, C.2.2.2.1, C.2.2.2.2.1⟩ hM2 ⟨⟨rfl, rfl, r1, r2, hws, List.mem_cons_self, hcode, C.2.2.2.2.1 _ y2, y5, r3, C.2.2.2.2.1 _ (jx_wd_in hp.1)⟩, y8, C.2.2.2.2.1 _ y7⟩ ⟨jx_blind b n1 D aC _ h, hpre⟩ rfl (by rw [List.length_map, List.length_reverse]; exact t1) hL.1 t2 hcat hd hfit) kk
          · subst hx1
            simp only [jx_mOk, Bool.and_eq_true] at hp
            obtain ⟨i1, i2⟩ := jx_wn_in hp.1
            refine jx_call_go C hm1 hm2 hk0 hz0 hL hS (va_runIN (Ts := jx_big) (own := jx_cn (jx_mi m).2.2.2.2.1) (host := "HeatWorks") (As := ((st.take k.toNatClampNeg).reverse).map (jx_cv b n1)) (b := jx_ad b n1 a) (n := k.toNatClampNeg) ⟨C.1, C.2.1, C.2.2.1, C.2.2.2.1, C.2.2.2.2.1⟩ hM2 ⟨⟨⟨rfl, rfl, r1, r2, hws, List.mem_cons_self⟩, hcode, C.2.2.2.2.1 _ y2, y5, r3, va_Nw.use rfl (C.2.2.2.2.2.1 _ i1 i2)⟩, y8, C.2.2.2.2.1 _ y7⟩ ⟨jx_blind b n1 D aC _ h, hpre⟩ rfl (by rw [List.length_map, List.length_reverse]; exact t1) hL.1 t2 hcat hd hfit) kk
        · cases ha
      · cases ha
  case invokestatic n =>
    obtain rfl := Nat.eq_of_beq_eq_true hln
    obtain ⟨r0, k, rfl, -, r00⟩ := jx_ro_stc hro
    obtain ⟨pos, hp⟩ := jx_pM_get r0
    have ha0 := ha
    simp only [jx_act] at ha
    by_cases hx : x = 6
    · exfalso
      exact jx_nc_stc hx ha0
    · rw [if_neg hx] at ha
      have h4 := r00 hx
      split at ha
      · rename_i hc
        cases ha
        obtain ⟨hcal, r1, r2, r3⟩ := room h4.2
        obtain ⟨q, hq, y1, y2, y3, y4, y5, -, -, y6⟩ := jx_yok hcal
        have hq1 : q.2.2.2.2 = 2 := by
          have : (jx_pY.getD cal (0, 0, 0, 0, 9)).2.2.2.2 = 2 := by
            rcases h4.1 with hx1 | hx1
            · subst hx1
              simp only [jx_mOk, Bool.and_eq_true] at hp
              exact Nat.eq_of_beq_eq_true hp.2
            · subst hx1
              simp only [jx_mOk, Bool.and_eq_true] at hp
              exact Nat.eq_of_beq_eq_true hp.2
          rw [List.getD_eq_getElem?_getD, hq] at this
          exact this
        have y7 := y6 hq1
        refine fun arr H locs hL hR hS => ?_
        have hpre := jx_pre C hR ((st.take k.toNatClampNeg).reverse)
        have t1 : (st.take k.toNatClampNeg).length = k.toNatClampNeg := by rw [List.length_take]; omega
        have t2 : st.map (jx_cv b n1) = (((st.take k.toNatClampNeg).reverse).map (jx_cv b n1)).reverse ++ (st.drop k.toNatClampNeg).map (jx_cv b n1) := by
          conv => lhs; rw [← List.take_append_drop k.toNatClampNeg st]
          rw [List.map_append, List.map_reverse, List.reverse_reverse]
        have hcat : 2 * (F0 mm pc arr (st.map (jx_cv b n1))).monitorRoom + (((st.drop k.toNatClampNeg).map (jx_cv b n1)).map fun v => v.category).sum ≤ 8 := by
          show 2 * 0 + _ ≤ 8
          rw [jx_cat_map]
          have := hc.1
          omega
        rcases h4.1 with hx1 | hx1
        · subst hx1
          simp only [jx_mOk, Bool.and_eq_true] at hp
          refine jx_call_go C hm1 hm2 hk0 hz0 hL hS (va_runS (Ts := jx_big) (own := jx_cn (jx_mi m).2.2.2.2.1) (As := ((st.take k.toNatClampNeg).reverse).map (jx_cv b n1)) (n := k.toNatClampNeg) ⟨C.1, C.2.1, C.2.2.1, C.2.2.2.1, C.2.2.2.2.1⟩ hM ⟨⟨rfl, rfl, r1, r2, jx_words C hcal, List.mem_cons_self, C.2.2.2.2.1 _ y1, C.2.2.2.2.1 _ y2, y5, r3, C.2.2.2.2.1 _ (jx_wd_in hp.1)⟩, C.2.2.2.2.1 _ y7⟩ ⟨jx_blind b n1 D aC _ h, hpre⟩ rfl (by rw [List.length_map, List.length_reverse]; exact t1) hL.1 t2 hcat hd hfit) kk
        · subst hx1
          simp only [jx_mOk, Bool.and_eq_true] at hp
          obtain ⟨i1, i2⟩ := jx_wn_in hp.1
          refine jx_call_go C hm1 hm2 hk0 hz0 hL hS (va_runSN (Ts := jx_big) (own := jx_cn (jx_mi m).2.2.2.2.1) (host := "HeatWorks") (As := ((st.take k.toNatClampNeg).reverse).map (jx_cv b n1)) (n := k.toNatClampNeg) ⟨C.1, C.2.1, C.2.2.1, C.2.2.2.1, C.2.2.2.2.1⟩ hM ⟨⟨⟨rfl, rfl, r1, r2, jx_words C hcal, List.mem_cons_self⟩, C.2.2.2.2.1 _ y1, C.2.2.2.2.1 _ y2, y5, r3, va_Nw.use rfl (C.2.2.2.2.2.1 _ i1 i2)⟩, C.2.2.2.2.1 _ y7, trivial⟩ ⟨jx_blind b n1 D aC _ h, hpre⟩ rfl (by rw [List.length_map, List.length_reverse]; exact t1) hL.1 t2 hcat hd hfit) kk
      · cases ha
  all_goals
    exfalso
    have hi := jx_act_res ha
    cases hi
end JXC
