/-! SOUNDNESS, fourth: making cells, lengths, casts, natives -/
section JXN
variable {p : Program} {l : Launch} {e : Env} {R : Room} {s : State} {mm : MethodId} {args : Array Value} {below : List Frame} {meth : Method} {c : Code} {Q : State → Prop} {k0 z0 m b n1 : Nat} {D : va_G} {aC : Nat → ClassId} {pc : Nat} {ls st : List Value} {h : jx_H} {pc' : Nat} {ls' st' : List Value} {h' : jx_H} {x y : Nat} {v : Value}
theorem jx_cl_acl {t : Nat} (h1 : 4 ≤ t) (h2 : t < 8) : ∃ r, jx_cl[jx_acl.getD t 99]? = some r ∧ r.1 = jx_cn (jx_acl.getD t 99) := by
  match t, h1, h2 with
  | 4, _, _ => exact ⟨_, rfl, rfl⟩
  | 5, _, _ => exact ⟨_, rfl, rfl⟩
  | 6, _, _ => exact ⟨_, rfl, rfl⟩
  | 7, _, _ => exact ⟨_, rfl, rfl⟩
theorem jx_s_aastore (C : jx_Ctx p R s mm args meth c m b n1 D aC) (hd : decode (jx_mi m).2.1 pc = .ok (.aastore, 1)) (ha : jx_act pc (.aastore, 1, x, y, v) ls st h = some (.inl (pc', ls', st', h'))) (kk : jx_K p l e R s mm args below meth c Q k0 z0 m b n1 D aC pc' ls' st' h') : jx_K p l e R s mm args below meth c Q k0 z0 m b n1 D aC pc ls st h := by
  simp only [jx_act] at ha
  split at ha
  · rename_i w k a st2
    split at ha
    · rename_i t n f ci fs he hw
      split at ha
      · rename_i hc
        simp only [jx_go, Option.some.injEq, Sum.inl.injEq, Prod.mk.injEq] at ha
        obtain ⟨rfl, rfl, rfl, rfl⟩ := ha
        refine fun arr H locs hL hR hS => ?_
        obtain ⟨⟨⟨ht1, ht2⟩, rfl⟩, hin⟩ := hc
        obtain ⟨e1, e2, e3, e4⟩ := hR.cell he (fun x q => by cases q; omega)
        obtain ⟨i1, i2, i3, i4⟩ := hR.cell hw (fun x q => by cases q)
        show W _ _ _ _ _ _ _ _ _ _ _ _ _ _ _ (F0 mm pc arr (.ref (jx_ad b n1 w) :: .int k :: .ref (jx_ad b n1 a) :: st2.map (jx_cv b n1)))
        rw [e1, i1]
        obtain ⟨hAr, hRA⟩ := jx_nK C ht2 (jx_tyO ht1 ht2)
        obtain ⟨r, hr, hrn⟩ := jx_cl_acl ht1 ht2
        obtain ⟨r', hr', cellV, v1, v2, v3, -⟩ := i4
        have hcls := (C.2.2.2.2.2.2.1.1 _ _ hr).2
        obtain ⟨kA, comp, k1, k2, k3, -⟩ := hRA
        have hcomp : comp = D.1 (jx_acl.getD t 99) := Option.some.inj (k3.symm.trans (by rw [← hrn]; exact hcls.1))
        subst hcomp
        obtain ⟨kC, hkC, -⟩ := hcls.2
        refine W.aast C.1 C.2.1 e4 (fun q h => by cases h) (fun h => by cases h) k1 k2 rfl hkC ⟨hin.1, by show _ < (arrV _ _ _).slots.size; rw [arrV_size]; exact hin.2⟩ v1 (fun q h => by rw [v3] at h; cases h) (by rw [v2]; exact hkC) (by rw [v2]; exact va_assign hcls) rfl rfl hd fun H1 e5 z oq => ?_
        refine kk arr H1 _ hL (hR.set C.2.2.2.2.2.2.2.2.2.2.1 ⟨e2, e3⟩ (fun x q => by cases q; omega) z oq ?_) (hS.put z oq (by show n1 < n1 + a; omega))
        show H1[n1 + a]? = some (vp_cell _ _)
        rw [e5]
        show some ((vp_cell (aC t) (n, .inr (.inr (.inr (.inr fun j => (f j).map (jx_ad b n1)))))).setSlot _ _) = some (vp_cell (aC t) (n, .inr (.inr (.inr (.inr fun j => (va_up f k.toNatClampNeg (some w) j).map (jx_ad b n1))))))
        rw [vp_cell_q, vp_cell_q, arrV_store]
        congr 2
        funext q
        by_cases hq : q = k.toNatClampNeg
        · subst hq; simp [updV, va_up, va_rf, i1]
        · simp [updV, va_up, hq]
      · cases ha
    · cases ha
  · rename_i k a st2
    split at ha
    · rename_i t n f he
      split at ha
      · rename_i hc
        simp only [jx_go, Option.some.injEq, Sum.inl.injEq, Prod.mk.injEq] at ha
        obtain ⟨rfl, rfl, rfl, rfl⟩ := ha
        refine fun arr H locs hL hR hS => ?_
        obtain ⟨⟨ht1, ht2⟩, hin⟩ := hc
        obtain ⟨e1, e2, e3, e4⟩ := hR.cell he (fun x q => by cases q; omega)
        show W _ _ _ _ _ _ _ _ _ _ _ _ _ _ _ (F0 mm pc arr (.null :: .int k :: .ref (jx_ad b n1 a) :: st2.map (jx_cv b n1)))
        rw [e1]
        obtain ⟨hAr, hRA⟩ := jx_nK C ht2 (jx_tyO ht1 ht2)
        refine va_WaastN (C := jx_cn (jx_acl.getD t 99)) C.1 C.2.1 e4 (hAr n (fun j => va_rf ((f j).map (jx_ad b n1)))) (fun h => by cases h) (by show ¬ (k < 0 ∨ (arrV _ _ _).slots.size ≤ _); rw [arrV_size]; exact jx_vp hin) rfl rfl hd fun H1 e5 z oq => ?_
        refine kk arr H1 _ hL (hR.set C.2.2.2.2.2.2.2.2.2.2.1 ⟨e2, e3⟩ (fun x q => by cases q; omega) z oq ?_) (hS.put z oq (by show n1 < n1 + a; omega))
        show H1[n1 + a]? = some (vp_cell _ _)
        rw [e5]
        show some ((vp_cell (aC t) (n, .inr (.inr (.inr (.inr fun j => (f j).map (jx_ad b n1)))))).setSlot _ _) = some (vp_cell (aC t) (n, .inr (.inr (.inr (.inr fun j => (va_up f k.toNatClampNeg none j).map (jx_ad b n1))))))
        rw [vp_cell_q, vp_cell_q, arrV_store]
        congr 2
        funext q
        by_cases hq : q = k.toNatClampNeg
        · subst hq; simp [updV, va_up, va_rf]
        · simp [updV, va_up, hq]
      · cases ha
    · cases ha
  · cases ha
theorem jx_s_arraylength (C : jx_Ctx p R s mm args meth c m b n1 D aC) (hd : decode (jx_mi m).2.1 pc = .ok (.arraylength, 1)) (ha : jx_act pc (.arraylength, 1, x, y, v) ls st h = some (.inl (pc', ls', st', h'))) (kk : jx_K p l e R s mm args below meth c Q k0 z0 m b n1 D aC pc' ls' st' h') : jx_K p l e R s mm args below meth c Q k0 z0 m b n1 D aC pc ls st h := by
  simp only [jx_act] at ha
  split at ha
  · rename_i a st2
    split at ha
    · rename_i t n f he
      split at ha
      · rename_i hc
        simp only [jx_go, Option.some.injEq, Sum.inl.injEq, Prod.mk.injEq] at ha
        obtain ⟨rfl, rfl, rfl, rfl⟩ := ha
        refine fun arr H locs hL hR hS => ?_
        rcases hR.2.2 a _ he with ⟨rfl, n', f', h1, scr, i1, i2, i3, i4, i5⟩ | ⟨h1, h2, h3, h4⟩
        · cases h1
          refine W.alen C.1 C.2.1 (a := b) i1 i2 (n := Int32.ofNat n) (by rw [i4]) rfl ?_ hd (kk arr H locs hL hR hS)
          rfl
        · have ht : t < 8 := hc.elim id (fun q => by subst q; exact absurd rfl (h3 _))
          show W _ _ _ _ _ _ _ _ _ _ _ _ _ _ _ (F0 mm pc arr (.ref (jx_ad b n1 a) :: st2.map (jx_cv b n1)))
          rw [jx_ad_pos h1]
          have hl : (jx_cA b n1 (n, f)).1 = n := by
            unfold jx_cA
            split
            · rename_i heq; cases heq; rfl
            · rfl
          exact va_alen C.1 C.2.1 C.2.2.2.2.2.2.1 (jx_one h4) 0 t (x := jx_cA b n1 (n, f)) rfl (jx_tys_at aC ht) (by rw [hl]) hd (kk arr H locs hL hR hS)
      · cases ha
    · cases ha
  · cases ha
/-- behind a making: the frame -/
theorem jx_S_push {H H1 : Heap} {locs : List Loc} {A : Nat → Prop} {H0 : Heap} (hS : va_S A H0 H locs) (hz : H1.size = H.size + 1) (hk : ∀ q, q < H.size → H1[q]? = H[q]?) : va_S A H0 H1 locs :=
  ⟨by rw [hz]; exact Nat.le_succ_of_le hS.1, fun q h1 h2 => (hk q (Nat.lt_of_lt_of_le h1 hS.1)).trans (hS.2.1 q h1 h2), hS.2.2⟩
theorem jx_dflV (b n1 : Nat) (dl : List Value) (j : Nat) (hj : j < dl.length) (hnr : ∀ a, dl.getD j .null ≠ .ref a) : dl.getD j .null = vp_V (dl.map (jx_cv b n1)) j := by
  have h1 : dl.getD j .null = dl[j] := by simp [List.getD_eq_getElem?_getD, hj]
  have h2 : vp_V (dl.map (jx_cv b n1)) j = jx_cv b n1 dl[j] := by simp [vp_V, List.getD_eq_getElem?_getD, hj]
  rw [h1] at hnr
  rw [h1, h2]
  cases hv : dl[j] <;> first | rfl | exact absurd hv (hnr _)
theorem jx_s_new (C : jx_Ctx p R s mm args meth c m b n1 D aC) {n : Nat} (hd : decode (jx_mi m).2.1 pc = .ok (.new n, 3)) {cx : vw_C} (hcl : jx_cl[x]? = some cx) (hw : Cond.classLink (jx_cn (jx_mi m).2.2.2.2.1) n cx.1 ∈ jx_big) (hk0 : k0 ≤ h.1) (hz0 : z0 ≤ h.2.1) (hkR : h'.1 - k0 ≤ R.cells) (hzR : h'.2.1 - z0 ≤ R.slots) (ha : jx_act pc (.new n, 3, x, y, v) ls st h = some (.inl (pc', ls', st', h'))) (kk : jx_K p l e R s mm args below meth c Q k0 z0 m b n1 D aC pc' ls' st' h') : jx_K p l e R s mm args below meth c Q k0 z0 m b n1 D aC pc ls st h := by
  simp only [jx_act] at ha
  simp only [jx_go, Option.some.injEq, Sum.inl.injEq, Prod.mk.injEq] at ha
  obtain ⟨rfl, rfl, rfl, rfl⟩ := ha
  refine fun arr H locs hL hR hS => ?_
  obtain ⟨g1, g2, g3, g4, g5, g6, g7, g8, g9⟩ := jx_cls hcl
  have hKn := C.2.2.2.2.2.2.1.1 x _ hcl
  have hkR' : h.1 + 1 - k0 ≤ R.cells := hkR
  have hzR' : h.2.1 + (jx_dfl.getD x []).length - z0 ≤ R.slots := hzR
  rw [g2.1] at hzR'
  refine W.newcK C.1 C.2.1 C.2.2.2.1 (C.2.2.2.2.1 _ hw) (C.2.2.2.2.1 _ g3) (C.2.2.2.2.1 _ g4) rfl hd (by omega) (by omega) hKn.2.1 rfl fun H1 kC hkC e1 z1 o1 => ?_
  have hz : H.size = n1 + h.1 := hR.1
  rw [hz] at e1
  have key := kk arr H1 locs hL (hR.push (z := (jx_dfl.getD x []).length) C.2.2.2.2.2.2.2.2.2.2.1 (fun x q => by cases q) z1 o1 ⟨cx, hcl, (u_born (fun k => (jx_fty.getD x []).getD k .int) C.2.2.2.2.1 g5 hKn hkC e1 g7).to (fun j hj => by
    rw [g8 j hj]
    exact jx_dflV b n1 _ j (by rw [g2.1]; exact hj) (fun a q => by
      rw [← g8 j hj] at q
      revert q
      cases ((jx_fty.getD x []).getD j .int) <;> intro q <;> cases q))⟩) (jx_S_push hS z1 o1)
  show W p l e R s mm args below meth c H1 locs (h.1 - k0 + 1) (h.2.1 - z0 + cx.2.2) Q (F0 mm (pc + 3) arr (.ref H.size :: st.map (jx_cv b n1)))
  rw [hz, show h.1 - k0 + 1 = h.1 + 1 - k0 by omega, show h.2.1 - z0 + cx.2.2 = h.2.1 + (jx_dfl.getD x []).length - z0 by rw [g2.1]; omega]
  have e2 : jx_cv b n1 (.ref h.1) = .ref (n1 + h.1) := by show Value.ref (jx_ad b n1 h.1) = _; rw [jx_ad_pos hR.2.1]
  have key2 : W p l e R s mm args below meth c H1 locs (h.1 + 1 - k0) (h.2.1 + (jx_dfl.getD x []).length - z0) Q (F0 mm (pc + 3) arr (jx_cv b n1 (.ref h.1) :: st.map (jx_cv b n1))) := key
  rw [e2] at key2
  exact key2
theorem jx_RA_eq {s : State} {c1 c2 : ClassId} {ty : FieldType} (h1 : va_RA s c1 ty) (h2 : s.vm.findClass ("[" ++ ty.toString) = some c2) : c1 = c2 := by
  cases ty with
  | object C =>
    obtain ⟨kA, comp, a1, a2, a3, a4⟩ := h1
    exact Option.some.inj (a4.symm.trans h2)
  | _ => exact Option.some.inj (h1.symm.trans h2)
theorem jx_s_newarray (C : jx_Ctx p R s mm args meth c m b n1 D aC) {n : ArrayType} (hd : decode (jx_mi m).2.1 pc = .ok (.newarray n, 2)) (hx : x < 4) (hty : newarray.typeOf n = jx_aty.getD x .int) (hw : Cond.arrayClass (jx_aty.getD x .int) ∈ jx_big) (hk0 : k0 ≤ h.1) (hz0 : z0 ≤ h.2.1) (hkR : h'.1 - k0 ≤ R.cells) (hzR : h'.2.1 - z0 ≤ R.slots) (ha : jx_act pc (.newarray n, 2, x, y, v) ls st h = some (.inl (pc', ls', st', h'))) (kk : jx_K p l e R s mm args below meth c Q k0 z0 m b n1 D aC pc' ls' st' h') : jx_K p l e R s mm args below meth c Q k0 z0 m b n1 D aC pc ls st h := by
  simp only [jx_act] at ha
  split at ha
  · rename_i k st2
    split at ha
    · rename_i hc
      have main : ∀ (cont : (Nat → Int32) ⊕ (Nat → Int64) ⊕ (Nat → UInt32) ⊕ (Nat → UInt64) ⊕ (Nat → Option Nat)), (∀ cA : ClassId, vp_cell cA (jx_cA b n1 (k.toNatClampNeg, cont)) = arrV cA k.toNatClampNeg (fun _ => defaultValue (jx_aty.getD x .int))) → (pc', ls', st', h') = (pc + 2, ls, Value.ref h.1 :: st2, jx_new h k.toNatClampNeg (.inl (x, k.toNatClampNeg, cont))) → jx_K p l e R s mm args below meth c Q k0 z0 m b n1 D aC pc ls (.int k :: st2) h := by
        intro cont hcont heq
        simp only [Prod.mk.injEq] at heq
        obtain ⟨rfl, rfl, rfl, rfl⟩ := heq
        refine fun arr H locs hL hR hS => ?_
        have hkR' : h.1 + 1 - k0 ≤ R.cells := hkR
        have hzR' : h.2.1 + k.toNatClampNeg - z0 ≤ R.slots := hzR
        refine va_newaK C.1 C.2.1 (atype := n) (by rw [hty]; exact C.2.2.2.2.1 _ hw) rfl hd rfl hc.1 rfl (by
          rw [hty]
          have hb8 : componentBytes (jx_aty.getD x .int) ≤ 8 := by
            match x, hx with
            | 0, _ => decide
            | 1, _ => decide
            | 2, _ => decide
            | 3, _ => decide
          calc k.toNatClampNeg * componentBytes (jx_aty.getD x .int) ≤ 1000000 * 8 := Nat.mul_le_mul hc.2 hb8
            _ ≤ 536870912 := by decide) (by omega) (by omega) hR.1 fun H1 cA e1 z1 o1 hAr hNm => ?_
        rw [hty] at e1 hAr hNm
        obtain ⟨-, hRA⟩ := jx_nK C (t := x) (by omega) rfl
        have hcA := jx_RA_eq hRA hNm
        subst hcA
        have hz : H.size = n1 + h.1 := hR.1
        have key := kk arr H1 locs hL (hR.push (z := k.toNatClampNeg) C.2.2.2.2.2.2.2.2.2.2.1 (fun z q => by cases q; omega) (by rw [z1, hz]) (fun q hq => o1 q (by rw [← hz]; exact hq)) (by
          show H1[n1 + h.1]? = some (vp_cell (aC x) (jx_cA b n1 (k.toNatClampNeg, cont)))
          rw [hcont]
          exact e1)) (jx_S_push hS (by rw [z1, hz]) (fun q hq => o1 q (by rw [← hz]; exact hq)))
        show W p l e R s mm args below meth c H1 locs (h.1 - k0 + 1) (h.2.1 - z0 + k.toNatClampNeg) Q (F0 mm (pc + 2) arr (.ref (n1 + h.1) :: st2.map (jx_cv b n1)))
        rw [show h.1 - k0 + 1 = h.1 + 1 - k0 by omega, show h.2.1 - z0 + k.toNatClampNeg = h.2.1 + k.toNatClampNeg - z0 by omega]
        have e2 : jx_cv b n1 (.ref h.1) = .ref (n1 + h.1) := by show Value.ref (jx_ad b n1 h.1) = _; rw [jx_ad_pos hR.2.1]
        have key2 : W p l e R s mm args below meth c H1 locs (h.1 + 1 - k0) (h.2.1 + k.toNatClampNeg - z0) Q (F0 mm (pc + 2) arr (jx_cv b n1 (.ref h.1) :: st2.map (jx_cv b n1))) := key
        rw [e2] at key2
        exact key2
      match x, hx, ha, main with
      | 0, _, ha, main =>
        simp only [jx_go, Option.some.injEq, Sum.inl.injEq] at ha
        exact main _ (fun cA => rfl) ha.symm
      | 1, _, ha, main =>
        simp only [jx_go, Option.some.injEq, Sum.inl.injEq] at ha
        exact main _ (fun cA => rfl) ha.symm
      | 2, _, ha, main =>
        simp only [jx_go, Option.some.injEq, Sum.inl.injEq] at ha
        exact main _ (fun cA => rfl) ha.symm
      | 3, _, ha, main =>
        simp only [jx_go, Option.some.injEq, Sum.inl.injEq] at ha
        exact main _ (fun cA => rfl) ha.symm
    · cases ha
  · cases ha
theorem jx_s_anewarray (C : jx_Ctx p R s mm args meth c m b n1 D aC) {n : Nat} (hd : decode (jx_mi m).2.1 pc = .ok (.anewarray n, 3)) (hx1 : 4 ≤ x) (hx2 : x < 8) (hw : Cond.classLink (jx_cn (jx_mi m).2.2.2.2.1) n (jx_cn (jx_acl.getD x 99)) ∈ jx_big) (ho : va_AO (jx_cn (jx_acl.getD x 99)) s) (hk0 : k0 ≤ h.1) (hz0 : z0 ≤ h.2.1) (hkR : h'.1 - k0 ≤ R.cells) (hzR : h'.2.1 - z0 ≤ R.slots) (ha : jx_act pc (.anewarray n, 3, x, y, v) ls st h = some (.inl (pc', ls', st', h'))) (kk : jx_K p l e R s mm args below meth c Q k0 z0 m b n1 D aC pc' ls' st' h') : jx_K p l e R s mm args below meth c Q k0 z0 m b n1 D aC pc ls st h := by
  simp only [jx_act] at ha
  split at ha
  · rename_i k st2
    split at ha
    · rename_i hc
      simp only [jx_go, Option.some.injEq, Sum.inl.injEq, Prod.mk.injEq] at ha
      obtain ⟨rfl, rfl, rfl, rfl⟩ := ha
      refine fun arr H locs hL hR hS => ?_
      have hkR' : h.1 + 1 - k0 ≤ R.cells := hkR
      have hzR' : h.2.1 + k.toNatClampNeg - z0 ≤ R.slots := hzR
      refine W.anew C.1 C.2.1 C.2.2.2.1 (C.2.2.2.2.1 _ hw) (va_AO.use ho) rfl hd rfl hc.1 (by have := hc.2; omega) (by omega) (by omega) fun cA kA comp f1 f2 f3 f4 => ?_
      generalize hH1 : H.push ({ cls := cA, slots := Array.replicate k.toNatClampNeg .null, vm := .none } : Cell) = H1
      have z1 : H1.size = H.size + 1 := by rw [← hH1, Array.size_push]
      have e1 : H1[H.size]? = some (arrV cA k.toNatClampNeg (fun _ => .null)) := by rw [← hH1, Array.getElem?_push_size, ← arrV_new]
      have o1 : ∀ q : Nat, q < H.size → H1[q]? = H[q]? := fun q hq => by rw [← hH1, Array.getElem?_push, if_neg (Nat.ne_of_lt hq)]
      obtain ⟨-, hRA⟩ := jx_nK C hx2 (jx_tyO hx1 hx2)
      have hcA := jx_RA_eq hRA f1
      subst hcA
      have hz : H.size = n1 + h.1 := hR.1
      rw [hz] at e1
      have key := kk arr H1 locs hL (hR.push (z := k.toNatClampNeg) C.2.2.2.2.2.2.2.2.2.2.1 (fun z q => by cases q; omega) z1 o1 e1) (jx_S_push hS z1 o1)
      show W p l e R s mm args below meth c H1 locs (h.1 - k0 + 1) (h.2.1 - z0 + k.toNatClampNeg) Q (F0 mm (pc + 3) arr (.ref H.size :: st2.map (jx_cv b n1)))
      rw [hz, show h.1 - k0 + 1 = h.1 + 1 - k0 by omega, show h.2.1 - z0 + k.toNatClampNeg = h.2.1 + k.toNatClampNeg - z0 by omega]
      have e2 : jx_cv b n1 (.ref h.1) = .ref (n1 + h.1) := by show Value.ref (jx_ad b n1 h.1) = _; rw [jx_ad_pos hR.2.1]
      have key2 : W p l e R s mm args below meth c H1 locs (h.1 + 1 - k0) (h.2.1 + k.toNatClampNeg - z0) Q (F0 mm (pc + 3) arr (jx_cv b n1 (.ref h.1) :: st2.map (jx_cv b n1))) := key
      rw [e2] at key2
      exact key2
    · cases ha
  · cases ha
theorem jx_anm_RA {s : State} {cA : ClassId} {t : Nat} (ht : t < 8) (h : va_RA s cA (jx_aty.getD t .int)) : s.vm.findClass (jx_anm.getD t "") = some cA := by
  have h1 := jx_all_at jx_tOk_all (List.mem_range.mpr ht)
  simp only [jx_tOk, Bool.and_eq_true, decide_eq_true_eq] at h1
  rw [h1.1]
  revert h
  generalize jx_aty.getD t .int = ty
  intro h
  cases ty with
  | object C => obtain ⟨kA, comp, a1, a2, a3, a4⟩ := h; exact a4
  | _ => exact h
theorem jx_s_checkcast (C : jx_Ctx p R s mm args meth c m b n1 D aC) {n : Nat} (hd : decode (jx_mi m).2.1 pc = .ok (.checkcast n, 3)) (hx2 : x < 8) (hw : Cond.classLink (jx_cn (jx_mi m).2.2.2.2.1) n (jx_anm.getD x "") ∈ jx_big) (ha : jx_act pc (.checkcast n, 3, x, y, v) ls st h = some (.inl (pc', ls', st', h'))) (kk : jx_K p l e R s mm args below meth c Q k0 z0 m b n1 D aC pc' ls' st' h') : jx_K p l e R s mm args below meth c Q k0 z0 m b n1 D aC pc ls st h := by
  simp only [jx_act] at ha
  split at ha
  · rename_i a st2
    split at ha
    · rename_i t f he
      split at ha
      · rename_i hc
        simp only [jx_go, Option.some.injEq, Sum.inl.injEq, Prod.mk.injEq] at ha
        obtain ⟨rfl, rfl, rfl, rfl⟩ := ha
        refine fun arr H locs hL hR hS => ?_
        obtain ⟨rfl, ht⟩ := hc
        obtain ⟨e1, e2, e3, e4⟩ := hR.cell he (fun x q => by cases q; omega)
        have k1 : W _ _ _ _ _ _ _ _ _ _ _ _ _ _ _ (F0 mm (pc + 3) arr (.ref (jx_ad b n1 a) :: st2.map (jx_cv b n1))) := kk arr H locs hL hR hS
        show W _ _ _ _ _ _ _ _ _ _ _ _ _ _ _ (F0 mm pc arr (.ref (jx_ad b n1 a) :: st2.map (jx_cv b n1)))
        rw [e1] at k1 ⊢
        exact va_castA (D := D) (cl := jx_cl) C.1 C.2.1 C.2.2.2.1 (C.2.2.2.2.1 _ hw) (jx_one e4) 0 rfl (jx_anm_RA ht (jx_nK C ht rfl).2) hd k1
      · cases ha
    · cases ha
  · cases ha
end JXN
