/-! SOUNDNESS, fifth: Object's constructor, an array's clone, arraycopy -/
theorem jx_fitO (C : String) (r : Option Nat) : fits (.object C) (va_rf r) = true := by cases r <;> rfl
section JXT
variable {p : Program} {l : Launch} {e : Env} {R : Room} {s : State} {mm : MethodId} {args : Array Value} {below : List Frame} {meth : Method} {c : Code} {Q : State → Prop} {k0 z0 m b n1 : Nat} {D : va_G} {aC : Nat → ClassId} {pc : Nat} {ls st : List Value} {h : jx_H} {pc' : Nat} {ls' st' : List Value} {h' : jx_H} {x y : Nat} {v : Value}
theorem jx_cat_map (b n1 : Nat) (st : List Value) : ((st.map (jx_cv b n1)).map fun v => v.category).sum = jx_cat st := by
  unfold jx_cat
  rw [List.map_map]
  congr 1
  apply List.map_congr_left
  intro v _
  exact jx_cv_cat b n1 v
theorem jx_s_objInit (C : jx_Ctx p R s mm args meth c m b n1 D aC) {n : Nat} (hd : decode (jx_mi m).2.1 pc = .ok (.invokespecial n, 3)) (hw : Cond.methodLink (jx_cn (jx_mi m).2.2.2.2.1) n objectInit ∈ jx_big) (hf : 1 ≤ R.frames) (hlo : 20 ≤ R.locals) (ha : jx_act pc (.invokespecial n, 3, 4, y, v) ls st h = some (.inl (pc', ls', st', h'))) (kk : jx_K p l e R s mm args below meth c Q k0 z0 m b n1 D aC pc' ls' st' h') : jx_K p l e R s mm args below meth c Q k0 z0 m b n1 D aC pc ls st h := by
  simp only [jx_act] at ha
  split at ha
  · rw [if_pos trivial] at ha
    split at ha
    · rename_i a rest
      split at ha
      · rename_i hc
        simp only [jx_go, Option.some.injEq, Sum.inl.injEq, Prod.mk.injEq] at ha
        obtain ⟨rfl, rfl, rfl, rfl⟩ := ha
        refine fun arr H locs hL hR hS => ?_
        refine W.objInit C.1 C.2.1 C.2.2.2.1 (C.2.2.2.2.1 _ hw) (C.2.2.2.2.1 _ (jx_wd_in jx_wObj.1)) (C.2.2.2.2.1 _ (jx_wd_in jx_wObj.2)) rfl (hL.1.trans C.2.2.1.symm) rfl hd hf ?_ (kk arr H locs hL hR hS)
        show 2 * 0 + ((rest.map (jx_cv b n1)).map fun v => v.category).sum + 12 ≤ R.locals
        rw [jx_cat_map]
        omega
      · cases ha
    · cases ha
  · cases ha
theorem jx_cloneW (C : jx_Ctx p R s mm args meth c m b n1 D aC) {n : Nat} (hd : decode (jx_mi m).2.1 pc = .ok (.invokevirtual n, 3)) {ad : String} (hw : Cond.methodLink (jx_cn (jx_mi m).2.2.2.2.1) n ⟨ad, "clone", "()Ljava/lang/Object;"⟩ ∈ jx_big) (hsm : Cond.sameMethod ad "java/lang/Object" "clone" "()Ljava/lang/Object;" ∈ jx_big) (hsl : Cond.selects ad ⟨ad, "clone", "()Ljava/lang/Object;"⟩ jx_yC ∈ jx_big) (hcs : va_Nw (.castable ad "java/lang/Cloneable") s) (hf : 1 ≤ R.frames) (hlo : 22 ≤ R.locals)
    {arr : Array Slot} (hml : arr.size = (jx_mi m).2.2.1) {H : Heap} {locs : List Loc} {cells slots a : Nat} {cA : ClassId} {X0 : vp_A} {ty : FieldType} (hAr : ArrOfT s cA ty) (hnm : s.vm.findClass ad = some cA) (he : H[a]? = some (vp_cell cA X0)) (hfit : ∀ (i : Nat) (v : Value), (vp_cell cA X0).slots[i]? = some v → fits ty v = true) {rest : List Value} (hct : (rest.map fun v => v.category).sum ≤ 8) (hcells : cells + 1 ≤ R.cells) (hslots : slots + X0.1 ≤ R.slots)
    (kk : ∀ H1 : Heap, H1.size = H.size + 1 → H1[H.size]? = some (vp_cell cA X0) → (∀ q, q < H.size → H1[q]? = H[q]?) → W p l e R s mm args below meth c H1 locs (cells + 1) (slots + X0.1) Q (F0 mm (pc + 3) arr (.ref H.size :: rest))) : W p l e R s mm args below meth c H locs cells slots Q (F0 mm pc arr (.ref a :: rest)) := by
  have hsz : (vp_cell cA X0).slots.size = X0.1 := by
    obtain ⟨n, f | f | f | f | f⟩ := X0 <;> exact arrV_size _ _ _
  have hvm0 : (vp_cell cA X0).vm = .none := by
    obtain ⟨n, f | f | f | f | f⟩ := X0 <;> rfl
  have hcl0 : (vp_cell cA X0).cls = cA := by
    obtain ⟨n, f | f | f | f | f⟩ := X0 <;> rfl
  have hcellE : ({ cls := (vp_cell cA X0).cls, slots := (vp_cell cA X0).slots } : Cell) = vp_cell cA X0 := by
    obtain ⟨n, f | f | f | f | f⟩ := X0 <;> rfl
  obtain ⟨c0, t0, f1, f2, f3⟩ := Cond.castable_spec (va_Nw.use (A := args) rfl hcs)
  cases hnm.symm.trans f1
  intro T hT X
  have hcellT : T.heap[a]? = some (vp_cell cA X0) := by rw [hT]; exact he
  obtain ⟨-, kA, hkA, comp, hkind⟩ := State.isArrayOf_alike X.warmed.alike (hAr 0 (fun _ => .null))
  obtain ⟨-, kS, hkS, compS, hkindS⟩ := hAr 0 (fun _ => .null)
  obtain ⟨vm', X', stp⟩ := X.cloneArray C.1 C.2.2.2.1 (C.2.2.2.2.1 _ hw) (C.2.2.2.2.1 _ hsm) (C.2.2.2.2.1 _ (jx_wd_in jx_wCln.1)) (C.2.2.2.2.1 _ (jx_wd_in jx_wCln.2)) (C.2.2.2.2.1 _ hsl) (a := a) (cell := vp_cell cA X0) hcellT (fun k h => by rw [hvm0] at h; cases h) (by rw [hvm0]; exact fun h => by cases h) (by rw [hcl0]; exact hnm) f2 (by rw [hcl0]; exact f3)
    (fun i v hv => by
      rw [hcl0]
      have hk' : T.vm.classes[cA]? = some kA := hkA
      simpa [State.fitsSlot, State.slotType?, hk', hkind] using hfit i v hv)
    (g := F0 mm pc arr (.ref a :: rest)) rfl (by rw [C.2.2.1]; exact hml) rfl (by rw [C.2.1]; exact hd) hf (by show 2 * 0 + _ + 14 ≤ _; omega) hcells (by rw [hsz]; exact hslots) (hloader := by rw [hcl0]; exact Vm.clonesLoader_of_array hkS hkindS)
  rw [hcellE, hsz] at X'
  obtain ⟨t, b1, b2⟩ := kk (H.push (vp_cell cA X0)) (by rw [Array.size_push]) (by rw [Array.getElem?_push_size]) (fun q hq => by rw [Array.getElem?_push, if_neg (Nat.ne_of_lt hq)])
    ((T.setVm vm').pushCell (vp_cell cA X0)) (by rw [← hT]; rfl) X'
  refine ⟨t, stp t ?_, b2⟩
  rw [hcellE, hT]
  exact b1
theorem jx_s_clone (C : jx_Ctx p R s mm args meth c m b n1 D aC) {n : Nat} (hd : decode (jx_mi m).2.1 pc = .ok (.invokevirtual n, 3)) (hw : Cond.methodLink (jx_cn (jx_mi m).2.2.2.2.1) n ⟨jx_anm.getD y "", "clone", "()Ljava/lang/Object;"⟩ ∈ jx_big) (hsm : Cond.sameMethod (jx_anm.getD y "") "java/lang/Object" "clone" "()Ljava/lang/Object;" ∈ jx_big) (hsl : Cond.selects (jx_anm.getD y "") ⟨jx_anm.getD y "", "clone", "()Ljava/lang/Object;"⟩ jx_yC ∈ jx_big) (hcs : va_Nw (.castable (jx_anm.getD y "") "java/lang/Cloneable") s) (hf : 1 ≤ R.frames) (hlo : 22 ≤ R.locals) (hk0 : k0 ≤ h.1) (hz0 : z0 ≤ h.2.1) (hkR : h'.1 - k0 ≤ R.cells) (hzR : h'.2.1 - z0 ≤ R.slots) (ha : jx_act pc (.invokevirtual n, 3, 5, y, v) ls st h = some (.inl (pc', ls', st', h'))) (kk : jx_K p l e R s mm args below meth c Q k0 z0 m b n1 D aC pc' ls' st' h') : jx_K p l e R s mm args below meth c Q k0 z0 m b n1 D aC pc ls st h := by
  simp only [jx_act] at ha
  split at ha
  · rw [if_pos trivial] at ha
    split at ha
    · rename_i a rest
      have main : ∀ (t k : Nat) (cont : (Nat → Int32) ⊕ (Nat → Int64) ⊕ (Nat → UInt32) ⊕ (Nat → UInt64) ⊕ (Nat → Option Nat)) (cont2 : (Nat → Int32) ⊕ (Nat → Int64) ⊕ (Nat → UInt32) ⊕ (Nat → UInt64) ⊕ (Nat → Option Nat)), jx_cA b n1 (k, cont) = (k, cont2) → h.2.2 a = some (.inl (t, k, cont)) → t = y → t < 8 → jx_cat rest ≤ 8 → (∀ (cA : ClassId) (i : Nat) (v : Value), (vp_cell cA (k, cont2)).slots[i]? = some v → fits (jx_aty.getD t .int) v = true) → (pc', ls', st', h') = (pc + 3, ls, Value.ref h.1 :: rest, jx_new h k (.inl (t, k, cont))) → jx_K p l e R s mm args below meth c Q k0 z0 m b n1 D aC pc ls (.ref a :: rest) h := by
        intro t k cont cont2 hcA he hty ht hct hfit heq
        subst hty
        simp only [Prod.mk.injEq] at heq
        obtain ⟨rfl, rfl, rfl, rfl⟩ := heq
        refine fun arr H locs hL hR hS => ?_
        have hkR' : h.1 + 1 - k0 ≤ R.cells := hkR
        have hzR' : h.2.1 + k - z0 ≤ R.slots := hzR
        obtain ⟨e1, e2, e3, e4⟩ := hR.cell he (fun x q => by cases q; omega)
        obtain ⟨hAr, hRA⟩ := jx_nK C ht rfl
        have e5 : H[n1 + a]? = some (vp_cell (aC t) (k, cont2)) := by rw [← hcA]; exact e4
        show W _ _ _ _ _ _ _ _ _ _ _ _ _ _ _ (F0 mm pc arr (.ref (jx_ad b n1 a) :: rest.map (jx_cv b n1)))
        rw [e1]
        refine jx_cloneW C hd hw hsm hsl hcs hf hlo hL.1 hAr (jx_anm_RA ht hRA) e5 (hfit (aC t)) (by rw [jx_cat_map]; exact hct) (by omega) (by show _ + k ≤ _; omega) fun H1 z1 d1 o1 => ?_
        have hz : H.size = n1 + h.1 := hR.1
        rw [hz] at d1
        have key := kk arr H1 locs hL (hR.push (z := k) C.2.2.2.2.2.2.2.2.2.2.1 (fun z q => by cases q; omega) z1 o1 (by
          show H1[n1 + h.1]? = some (vp_cell (aC t) (jx_cA b n1 (k, cont)))
          rw [hcA]
          exact d1)) (jx_S_push hS z1 o1)
        show W p l e R s mm args below meth c H1 locs (h.1 - k0 + 1) (h.2.1 - z0 + k) Q (F0 mm (pc + 3) arr (.ref H.size :: rest.map (jx_cv b n1)))
        rw [hz, show h.1 - k0 + 1 = h.1 + 1 - k0 by omega, show h.2.1 - z0 + k = h.2.1 + k - z0 by omega]
        have e6 : jx_cv b n1 (.ref h.1) = .ref (n1 + h.1) := by show Value.ref (jx_ad b n1 h.1) = _; rw [jx_ad_pos hR.2.1]
        have key2 : W p l e R s mm args below meth c H1 locs (h.1 + 1 - k0) (h.2.1 + k - z0) Q (F0 mm (pc + 3) arr (jx_cv b n1 (.ref h.1) :: rest.map (jx_cv b n1))) := key
        rw [e6] at key2
        exact key2
      split at ha
      · rename_i t k f he
        split at ha
        · rename_i hc
          simp only [jx_go, Option.some.injEq, Sum.inl.injEq] at ha
          obtain ⟨⟨hct, hty⟩, rfl⟩ := hc
          exact main _ k (.inl f) (.inl f) rfl he hty (by decide) hct (fun cA i w hw2 => va_fit (fun i _ => rfl) i w hw2) ha.symm
        · cases ha
      · rename_i t k f he
        split at ha
        · rename_i hc
          simp only [jx_go, Option.some.injEq, Sum.inl.injEq] at ha
          obtain ⟨⟨hct, hty⟩, ht1, ht2⟩ := hc
          exact main _ k (.inr (.inr (.inr (.inr f)))) (.inr (.inr (.inr (.inr fun j => (f j).map (jx_ad b n1))))) rfl he hty ht2 hct (fun cA i w hw2 => va_fit (fun i _ => by rw [jx_tyO ht1 ht2]; exact jx_fitO _ _) i w hw2) ha.symm
        · cases ha
      · cases ha
    · cases ha
  · cases ha
theorem jx_s_arraycopy (C : jx_Ctx p R s mm args meth c m b n1 D aC) {n : Nat} (hd : decode (jx_mi m).2.1 pc = .ok (.invokestatic n, 3)) (hw : Cond.methodLink (jx_cn (jx_mi m).2.2.2.2.1) n arraycopyName ∈ jx_big) (hf : 1 ≤ R.frames) (hlo : 32 ≤ R.locals) (ha : jx_act pc (.invokestatic n, 3, 6, y, v) ls st h = some (.inl (pc', ls', st', h'))) (kk : jx_K p l e R s mm args below meth c Q k0 z0 m b n1 D aC pc' ls' st' h') : jx_K p l e R s mm args below meth c Q k0 z0 m b n1 D aC pc ls st h := by
  simp only [jx_act] at ha
  split at ha
  · rw [if_pos trivial] at ha
    split at ha
    · rename_i k dp d sp a rest
      split at ha
      · rename_i ta na f td nd g hea hed
        split at ha
        · rename_i hc
          simp only [jx_go, Option.some.injEq, Sum.inl.injEq, Prod.mk.injEq] at ha
          obtain ⟨rfl, rfl, rfl, rfl⟩ := ha
          obtain ⟨⟨hct, rfl, rfl⟩, ⟨h1, h2, h3⟩, h4, h5⟩ := hc
          refine fun arr H locs hL hR hS => ?_
          obtain ⟨a1, a2, a3, a4⟩ := hR.cell hea (fun x q => by cases q)
          obtain ⟨d1, d2, d3, d4⟩ := hR.cell hed (fun x q => by cases q)
          show W _ _ _ _ _ _ _ _ _ _ _ _ _ _ _ (F0 mm pc arr (.int k :: .int dp :: .ref (jx_ad b n1 d) :: .int sp :: .ref (jx_ad b n1 a) :: rest.map (jx_cv b n1)))
          rw [a1, d1]
          have nn : ∀ z : Int32, ¬ z < 0 → z.toInt = (z.toNatClampNeg : Int) := by
            intro z hz
            have hz0 : (0 : Int) ≤ z.toInt := by
              have := Int32.not_lt.mp hz
              simpa using Int32.le_iff_toInt_le.mp this
            show z.toInt = ((z.toInt.toNat : Nat) : Int)
            omega
          intro T hT X
          have hc0 : H[n1 + a]? = some (vp_cell (aC 0) (na, .inl f)) := a4
          have hc1 : H[n1 + d]? = some (vp_cell (aC 0) (nd, .inl g)) := d4
          obtain ⟨hAr, -⟩ := jx_nK C (t := 0) (by decide) (ty := .int) rfl
          obtain ⟨-, kz, hkz, cmz, hkkz⟩ := hAr na (fun j => .int (f j))
          obtain ⟨vm', X', step⟩ := X.arraycopy C.1 C.2.2.2.1 (C.2.2.2.2.1 _ hw) (C.2.2.2.2.1 _ (jx_wd_in jx_wCpy.1)) (C.2.2.2.2.1 _ (jx_wd_in jx_wCpy.2.1)) (C.2.2.2.2.1 _ (jx_wd_in jx_wCpy.2.2)) (src := n1 + a) (dst := n1 + d) (cs := vp_cell (aC 0) (na, .inl f)) (cd := vp_cell (aC 0) (nd, .inl g)) (srcPos := sp) (destPos := dp) (n := k) (by rw [hT]; exact hc0) (by rw [hT]; exact hc1)
            (fun _ h => by cases h) (fun _ h => by cases h) (fun h => by cases h) (fun h => by cases h) hkz hkz hkkz hkkz (by simp [refKind]) h1 h2 h3
            (by rw [nn sp h1, nn k h3]; show ¬ _ > ((arrV (aC 0) na (fun j => .int (f j))).slots.size : Int); rw [arrV_size]; omega)
            (by rw [nn dp h2, nn k h3]; show ¬ _ > ((arrV (aC 0) nd (fun j => .int (g j))).slots.size : Int); rw [arrV_size]; omega)
            (fun vm₁ _ i hi => by
              have e : (vp_cell (aC 0) (na, .inl f)).slots.getD (sp.toNatClampNeg + i) .null = .int (f (sp.toNatClampNeg + i)) := by
                show (arrV (aC 0) na (fun j => .int (f j))).slots.getD _ _ = _
                rw [Array.getD_eq_getD_getElem?, arrV_read _ _ (by omega)]
                rfl
              refine ⟨?_, ?_⟩
              · rw [e]; rfl
              · rw [e]; exact trivial)
            (g := F0 mm pc arr (.int k :: .int dp :: .ref (n1 + d) :: .int sp :: .ref (n1 + a) :: rest.map (jx_cv b n1))) rfl (by rw [C.2.2.1]; exact hL.1) (rest := rest.map (jx_cv b n1)) rfl (by rw [C.2.1]; exact hd) hf (by show 2 * 0 + _ + (5 + 2 + 11) ≤ _; rw [jx_cat_map]; omega)
          have e1 : copied (vp_cell (aC 0) (na, .inl f)) (vp_cell (aC 0) (nd, .inl g)) sp dp k = vp_cell (aC 0) (nd, .inl (va_cpy f g sp.toNatClampNeg dp.toNatClampNeg k.toNatClampNeg)) := va_copied (fun z => .int z) (aC 0) (aC 0) f g h4
          rw [e1] at X' step
          have hl : n1 + d < H.size := (Array.getElem?_eq_some_iff.mp hc1).1
          have hheap : ((T.setVm vm').setCell (n1 + d) (vp_cell (aC 0) (nd, .inl (va_cpy f g sp.toNatClampNeg dp.toNatClampNeg k.toNatClampNeg)))).heap = H.setIfInBounds (n1 + d) (vp_cell (aC 0) (nd, .inl (va_cpy f g sp.toNatClampNeg dp.toNatClampNeg k.toNatClampNeg))) := by rw [← hT]; rfl
          have oq : ∀ q : Nat, q ≠ n1 + d → (H.setIfInBounds (n1 + d) (vp_cell (aC 0) (nd, .inl (va_cpy f g sp.toNatClampNeg dp.toNatClampNeg k.toNatClampNeg))))[q]? = H[q]? := fun q hq => by simp [Array.getElem?_setIfInBounds, Ne.symm hq]
          obtain ⟨t, t1, t2⟩ := kk arr (H.setIfInBounds (n1 + d) (vp_cell (aC 0) (nd, .inl (va_cpy f g sp.toNatClampNeg dp.toNatClampNeg k.toNatClampNeg)))) (locs ++ ((vp_cell (aC 0) (na, .inl f)).stretch sp.toNatClampNeg k.toNatClampNeg).zipIdx.map fun q => ⟨n1 + d, dp.toNatClampNeg + q.2⟩) hL (hR.set C.2.2.2.2.2.2.2.2.2.2.1 ⟨d2, d3⟩ (fun x q => by cases q) (by simp) oq (show (H.setIfInBounds (n1 + d) _)[n1 + d]? = some _ by simp [Array.getElem?_setIfInBounds, hl]; rfl)) ⟨by simp; exact hS.1, fun q g1 g2 => by
            rw [oq q (fun e => g2 (by rw [e]; show n1 < n1 + d; omega))]
            exact hS.2.1 q g1 g2, fun q hq => by
            rcases List.mem_append.mp hq with h | h
            · exact hS.2.2 q h
            · obtain ⟨z, -, hz⟩ := List.mem_map.mp h
              rw [← hz]
              show n1 < n1 + d
              omega⟩ _ hheap X'
          exact ⟨t, step t t1, t2⟩
        · cases ha
      · cases ha
    · cases ha
  · cases ha
end JXT
