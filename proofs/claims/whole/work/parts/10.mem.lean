/-! SOUNDNESS, third: instructions that reach the heap -/
theorem jx_all_at {α : Type} {l : List α} {f : α → Bool} (h : l.all f = true) {a : α} (ha : a ∈ l) : f a = true := List.all_eq_true.mp h a ha
/-- what the tables say of a class -/
theorem jx_cls {i : Nat} {c : vw_C} (h : jx_cl[i]? = some c) : jx_cn i = c.1 ∧ ((jx_dfl.getD i []).length = c.2.2 ∧ (jx_fty.getD i []).length = c.2.2) ∧ Cond.instantiable c.1 c.2.2 ∈ jx_big ∧ Cond.initialized c.1 ∈ jx_big ∧ (∀ w ∈ u_ws c.1 c.2.1 c.2.2, w ∈ jx_big) ∧ (∀ k, k < c.2.2 → (c.2.1 k).1 = c.1) ∧ (∀ k, k < c.2.2 → parseFieldDescriptor (c.2.1 k).2.2.1 = some ((jx_fty.getD i []).getD k .int)) ∧ (∀ k, k < c.2.2 → defaultValue ((jx_fty.getD i []).getD k .int) = (jx_dfl.getD i []).getD k .null) ∧ ∀ a, a < c.2.2 → ∀ b, b < c.2.2 → a ≠ b → (c.2.1 a).2.1 ≠ (c.2.1 b).2.1 := by
  have hi : i < 13 := (List.getElem?_eq_some_iff.mp h).1
  have h1 := jx_all_at jx_clOk_all (List.mem_range.mpr hi)
  unfold jx_clOk at h1
  rw [h] at h1
  simp only [Bool.and_eq_true, decide_eq_true_eq] at h1
  obtain ⟨⟨⟨⟨⟨a1, a2⟩, a3⟩, a4⟩, a5⟩, a6⟩ := h1
  have a7 : ∀ k, k < c.2.2 → _ := fun k hk => jx_all_at a6 (List.mem_range.mpr hk)
  simp only [Bool.and_eq_true, decide_eq_true_eq] at a7
  refine ⟨a1, ⟨Nat.eq_of_beq_eq_true a2, Nat.eq_of_beq_eq_true a3⟩, jx_wd_in a4, jx_wd_in a5, fun w hw => ?_, fun k hk => (a7 k hk).1.1.1.2, fun k hk => (a7 k hk).1.1.2, fun k hk => (a7 k hk).1.2, fun a ha b hb hab => ?_⟩
  · unfold u_ws at hw
    obtain ⟨k, hk, rfl⟩ := List.mem_map.mp hw
    exact jx_wd_in (a7 k (List.mem_range.mp hk)).1.1.1.1
  · have := jx_all_at (a7 a ha).2 (List.mem_range.mpr hb)
    simp only [Bool.or_eq_true, decide_eq_true_eq] at this
    rcases this with q | q
    · exact absurd (Nat.eq_of_beq_eq_true q) hab
    · exact q
theorem jx_cv_fit {b n1 : Nat} {ty : FieldType} {v : Value} (h : jx_fit ty v = true) : narrow ty (jx_cv b n1 v) = jx_cv b n1 v ∧ fits ty (jx_cv b n1 v) = true := by
  unfold jx_fit at h
  split at h <;> first | exact ⟨rfl, rfl⟩ | cases h | skip
  rename_i x
  simp only [Bool.or_eq_true, beq_iff_eq] at h
  rcases h with rfl | rfl
  · exact ⟨(by decide : narrow .boolean (.int 0) = .int 0), (by decide : fits .boolean (.int 0) = true)⟩
  · exact ⟨(by decide : narrow .boolean (.int 1) = .int 1), (by decide : fits .boolean (.int 1) = true)⟩
theorem jx_cv_rf (b n1 : Nat) (r : Option Nat) : jx_cv b n1 (va_rf r) = va_rf (r.map (jx_ad b n1)) := by cases r <;> rfl
section JXM
variable {p : Program} {l : Launch} {e : Env} {R : Room} {s : State} {mm : MethodId} {args : Array Value} {below : List Frame} {meth : Method} {c : Code} {Q : State → Prop} {k0 z0 m b n1 : Nat} {D : va_G} {aC : Nat → ClassId} {pc : Nat} {ls st : List Value} {h : jx_H} {pc' : Nat} {ls' st' : List Value} {h' : jx_H} {x y : Nat} {v : Value}
theorem jx_s_getfield (C : jx_Ctx p R s mm args meth c m b n1 D aC) {n : Nat} (hd : decode (jx_mi m).2.1 pc = .ok (.getfield n, 3)) {cx : vw_C} (hcl : jx_cl[x]? = some cx) (hy : y < cx.2.2) (hw : Cond.fieldLink (jx_cn (jx_mi m).2.2.2.2.1) n cx.1 (cx.2.1 y).2.1 (cx.2.1 y).2.2.1 ∈ jx_big) (ha : jx_act pc (.getfield n, 3, x, y, v) ls st h = some (.inl (pc', ls', st', h'))) (kk : jx_K p l e R s mm args below meth c Q k0 z0 m b n1 D aC pc' ls' st' h') : jx_K p l e R s mm args below meth c Q k0 z0 m b n1 D aC pc ls st h := by
  simp only [jx_act] at ha
  split at ha
  · rename_i a st2
    split at ha
    · rename_i ci fs he
      split at ha
      · rename_i hci
        subst hci
        split at ha
        · rename_i w hfs
          simp only [jx_go, Option.some.injEq, Sum.inl.injEq, Prod.mk.injEq] at ha
          obtain ⟨rfl, rfl, rfl, rfl⟩ := ha
          refine fun arr H locs hL hR hS => ?_
          obtain ⟨e1, -, -, e4⟩ := hR.cell he (fun x q => by cases q)
          obtain ⟨g1, g2, g3, g4, g5, g6, g7, g8, g9⟩ := jx_cls hcl
          show W _ _ _ _ _ _ _ _ _ _ _ _ _ _ _ (F0 mm pc arr (.ref (jx_ad b n1 a) :: st2.map (jx_cv b n1)))
          rw [e1]
          refine va_get (T := cx.2.1) (C := cx.1) (N := cx.2.2) (ci := ci) C.1 C.2.1 C.2.2.2.2.1 g5 C.2.2.2.1 C.2.2.2.2.2.2.1 (jx_one e4) 0 rfl hcl y hy (C.2.2.2.2.1 _ hw) (fun z hz => by rw [g6 y hy] at hz; exact hz) (v := jx_cv b n1 w) (by rw [List.getElem?_map, hfs]; rfl) hd (kk arr H locs hL hR hS)
        · cases ha
      · cases ha
    · cases ha
  · cases ha
theorem jx_s_putfield (C : jx_Ctx p R s mm args meth c m b n1 D aC) {n : Nat} (hd : decode (jx_mi m).2.1 pc = .ok (.putfield n, 3)) {cx : vw_C} (hcl : jx_cl[x]? = some cx) (hy : y < cx.2.2) (hw : Cond.fieldLink (jx_cn (jx_mi m).2.2.2.2.1) n cx.1 (cx.2.1 y).2.1 (cx.2.1 y).2.2.1 ∈ jx_big) (hfin : (cx.2.1 y).2.2.2 = false ∨ ((jx_mi m).1.name = "<init>" ∧ (cx.2.1 y).1 = jx_cn (jx_mi m).2.2.2.2.1)) (ha : jx_act pc (.putfield n, 3, x, y, v) ls st h = some (.inl (pc', ls', st', h'))) (kk : jx_K p l e R s mm args below meth c Q k0 z0 m b n1 D aC pc' ls' st' h') : jx_K p l e R s mm args below meth c Q k0 z0 m b n1 D aC pc ls st h := by
  simp only [jx_act] at ha
  split at ha
  · rename_i w a st2
    split at ha
    · rename_i ci fs he
      split at ha
      · rename_i hci
        obtain ⟨rfl, hlen, hft⟩ := hci
        simp only [jx_go, Option.some.injEq, Sum.inl.injEq, Prod.mk.injEq] at ha
        obtain ⟨rfl, rfl, rfl, rfl⟩ := ha
        refine fun arr H locs hL hR hS => ?_
        obtain ⟨e1, e2, e3, e4⟩ := hR.cell he (fun x q => by cases q)
        obtain ⟨g1, g2, g3, g4, g5, g6, g7, g8, g9⟩ := jx_cls hcl
        have hap := va_apart (own := jx_cn (jx_mi m).2.2.2.2.1) C.2.2.2.2.1 g5 (fun k => (jx_fty.getD ci []).getD k .int) g7 g9 C.2.2.2.2.2.2.1 hcl
        obtain ⟨r, h1, cell, q1, q2, q3, q4⟩ := e4
        have hr : r = cx := Option.some.inj (h1.symm.trans hcl)
        subst hr
        obtain ⟨hSl, hfc, kC, hkC, hkind⟩ := C.2.2.2.2.2.2.1.1 ci _ hcl
        obtain ⟨cf, kf, fi, f, hi, hsl⟩ := hSl y hy
        obtain ⟨hn, hfit⟩ := jx_cv_fit (b := b) (n1 := n1) hft
        have hst := (u_facts hfc hkC (u_lays C.2.2.2.2.1 g5 hy) hi).1
        have hsame : s.fieldFound? r.1 (r.2.1 y).2.1 (r.2.1 y).2.2.1 = some (cf, kf, fi, f) := by rw [← hi, g6 y hy]
        have hlay := C.2.2.2.2.1 _ (g5 _ (u_in_lay hy))
        have key : ∀ (H' : Heap) (locs' : List Loc), H'[n1 + a]? = some (cell.setSlot (D.2 ci y) (jx_cv b n1 w)) → H'.size = H.size → (∀ q, q ≠ n1 + a → H'[q]? = H[q]?) → locs' = locs ++ [⟨n1 + a, D.2 ci y⟩] → W p l e R s mm args below meth c H' locs' (h.1 - k0) (h.2.1 - z0) Q (F0 mm (pc + 3) arr (st2.map (jx_cv b n1))) := by
          intro H' locs' d1 d2 d3 d4
          subst d4
          refine kk arr H' _ hL (hR.set C.2.2.2.2.2.2.2.2.2.2.1 ⟨e2, e3⟩ (fun x q => by cases q) d2 d3 ⟨r, hcl, ?_⟩) (hS.put d2 d3 (by show n1 < n1 + a; omega))
          refine t_OB.to (V := updV (vp_V (fs.map (jx_cv b n1))) y (jx_cv b n1 w)) ⟨_, d1, q2, q3, t_set q4 hap hy _⟩ (fun j _ => ?_)
          rw [vp_updV_set (by rw [List.length_map]; exact hlen)]
          show vp_V ((fs.map (jx_cv b n1)).set y (jx_cv b n1 w)) j = vp_V ((fs.set y w).map (jx_cv b n1)) j
          rw [List.map_set]
        show W _ _ _ _ _ _ _ _ _ _ _ _ _ _ _ (F0 mm pc arr (jx_cv b n1 w :: .ref (jx_ad b n1 a) :: st2.map (jx_cv b n1)))
        rw [e1]
        unfold u_lay at hlay
        rcases hff : (r.2.1 y).2.2.2 with _ | _
        · rw [if_neg (by rw [hff]; decide)] at hlay
          have h6 := u_store hfc hkC hkind hlay hi (g7 y hy) hn hfit
          refine W.putK C.1 C.2.1 (f := f) ⟨C.2.2.2.1, C.2.2.2.2.1 _ hw, ⟨_, _, _, hsame⟩, hst⟩ (by rw [q2]; exact h6) q1 q3 (by rw [hsl]; exact k2_hasslot (q4 y hy)) rfl rfl hd fun H' d1 d2 d3 => ?_
          rw [hsl] at d1 ⊢
          exact key H' _ d1 d2 d3 rfl
        · rw [if_pos hff] at hlay
          have hfin2 : (jx_mi m).1.name = "<init>" ∧ (r.2.1 y).1 = jx_cn (jx_mi m).2.2.2.2.1 := by
            rcases hfin with q | q
            · rw [hff] at q; cases q
            · exact q
          have hcf : mm.cls = cf := by
            obtain ⟨_, _, c', _, _, _, -, -, hf', -, -, -, hown2, -⟩ := Cond.laysFinal_spec hlay
            have e1 : c' = cf := by have := hi.symm.trans hf'; simp at this; exact this.1.symm
            rw [hfin2.2] at hown2
            rw [← e1]; exact Option.some.inj (C.2.2.2.1.symm.trans hown2)
          have h6 := u_fits hfc hkC hkind (Or.inr hlay) hi (g7 y hy) hn hfit
          refine W.putFinK C.1 C.2.1 C.2.2.2.1 (C.2.2.2.2.1 _ hw) hsame hst hcf (C.2.2.2.2.2.2.2.1 hfin2.1) (by rw [q2]; exact h6) q1 q3 (by rw [hsl]; exact k2_hasslot (q4 y hy)) rfl rfl hd fun H' d1 d2 d3 => ?_
          rw [hsl] at d1 ⊢
          exact key H' _ d1 d2 d3 rfl
      · cases ha
    · cases ha
  · cases ha
/-- an index within -/
theorem jx_vp {k : Int32} {n : Nat} (h : ¬ (k < 0) ∧ k.toNatClampNeg < n) : vp_in k n := fun q => q.elim h.1 (fun z => absurd h.2 (Nat.not_lt.mpr z))
theorem jx_nK (C : jx_Ctx p R s mm args meth c m b n1 D aC) {t : Nat} (ht : t < 8) {ty : FieldType} (he : jx_aty.getD t .int = ty) : ArrOfT s (aC t) ty ∧ va_RA s (aC t) ty := by
  have := C.2.2.2.2.2.2.1.2 t _ (jx_tys_at aC ht)
  rw [he] at this
  exact this
theorem jx_tyO {t : Nat} (h1 : 4 ≤ t) (h2 : t < 8) : jx_aty.getD t .int = .object (jx_cn (jx_acl.getD t 99)) := by
  match t, h1, h2 with
  | 4, _, _ => rfl
  | 5, _, _ => rfl
  | 6, _, _ => rfl
  | 7, _, _ => rfl
theorem jx_s_iaload (C : jx_Ctx p R s mm args meth c m b n1 D aC)  (hd : decode (jx_mi m).2.1 pc = .ok (.iaload, 1))  (ha : jx_act pc (.iaload, 1, x, y, v) ls st h = some (.inl (pc', ls', st', h'))) (kk : jx_K p l e R s mm args below meth c Q k0 z0 m b n1 D aC pc' ls' st' h') : jx_K p l e R s mm args below meth c Q k0 z0 m b n1 D aC pc ls st h := by
  simp only [jx_act] at ha
  split at ha
  · rename_i k a st2
    split at ha
    · rename_i t n f he
      split at ha
      · rename_i hc
        simp only [jx_go, Option.some.injEq, Sum.inl.injEq, Prod.mk.injEq] at ha
        obtain ⟨rfl, rfl, rfl, rfl⟩ := ha
        refine fun arr H locs hL hR hS => ?_
        rcases hc with ⟨rfl | rfl, hin⟩
        · obtain ⟨e1, e2, e3, e4⟩ := hR.cell he (fun x q => by cases q)
          show W _ _ _ _ _ _ _ _ _ _ _ _ _ _ _ (F0 mm pc arr (.int k :: .ref (jx_ad b n1 a) :: st2.map (jx_cv b n1)))
          rw [e1]
          exact va_iald C.1 C.2.1 C.2.2.2.2.2.2.1 (jx_one e4) 0 0 rfl (jx_tys_at aC (by decide)) (jx_vp hin) hd (kk arr H locs hL hR hS)
        · rcases hR.2.2 a _ he with ⟨rfl, n', f', h1, scr, i1, i2, i3, i4, i5⟩ | ⟨-, -, h1, -⟩
          · cases h1
            refine W.iald C.1 C.2.1 (a := b) i1 i2 i3 (by rw [i4]; exact jx_vp hin) (i5 _ hin.2) rfl ?_ hd (kk arr H locs hL hR hS)
            rfl
          · exact absurd rfl (h1 _)
      · cases ha
    · cases ha
  · cases ha
theorem jx_s_baload (C : jx_Ctx p R s mm args meth c m b n1 D aC)  (hd : decode (jx_mi m).2.1 pc = .ok (.baload, 1))  (ha : jx_act pc (.baload, 1, x, y, v) ls st h = some (.inl (pc', ls', st', h'))) (kk : jx_K p l e R s mm args below meth c Q k0 z0 m b n1 D aC pc' ls' st' h') : jx_K p l e R s mm args below meth c Q k0 z0 m b n1 D aC pc ls st h := by
  simp only [jx_act] at ha
  split at ha
  · rename_i k a st2
    split at ha
    · rename_i t n f he
      split at ha
      · rename_i hc
        simp only [jx_go, Option.some.injEq, Sum.inl.injEq, Prod.mk.injEq] at ha
        obtain ⟨rfl, rfl, rfl, rfl⟩ := ha
        refine fun arr H locs hL hR hS => ?_
        rcases hc with ⟨rfl | rfl, hin⟩
        · obtain ⟨e1, e2, e3, e4⟩ := hR.cell he (fun x q => by cases q)
          show W _ _ _ _ _ _ _ _ _ _ _ _ _ _ _ (F0 mm pc arr (.int k :: .ref (jx_ad b n1 a) :: st2.map (jx_cv b n1)))
          rw [e1]
          exact va_bald C.1 C.2.1 C.2.2.2.2.2.2.1 (jx_one e4) 0 2 rfl (jx_tys_at aC (by decide)) (jx_vp hin) hd (kk arr H locs hL hR hS)
        · obtain ⟨e1, e2, e3, e4⟩ := hR.cell he (fun x q => by cases q)
          show W _ _ _ _ _ _ _ _ _ _ _ _ _ _ _ (F0 mm pc arr (.int k :: .ref (jx_ad b n1 a) :: st2.map (jx_cv b n1)))
          rw [e1]
          exact va_zald C.1 C.2.1 C.2.2.2.2.2.2.1 (jx_one e4) 0 3 rfl (jx_tys_at aC (by decide)) (jx_vp hin) hd (kk arr H locs hL hR hS)
      · cases ha
    · cases ha
  · cases ha
theorem jx_s_laload (C : jx_Ctx p R s mm args meth c m b n1 D aC)  (hd : decode (jx_mi m).2.1 pc = .ok (.laload, 1))  (ha : jx_act pc (.laload, 1, x, y, v) ls st h = some (.inl (pc', ls', st', h'))) (kk : jx_K p l e R s mm args below meth c Q k0 z0 m b n1 D aC pc' ls' st' h') : jx_K p l e R s mm args below meth c Q k0 z0 m b n1 D aC pc ls st h := by
  simp only [jx_act] at ha
  split at ha
  · rename_i k a st2
    split at ha
    · rename_i t n f he
      split at ha
      · rename_i hc
        simp only [jx_go, Option.some.injEq, Sum.inl.injEq, Prod.mk.injEq] at ha
        obtain ⟨rfl, rfl, rfl, rfl⟩ := ha
        refine fun arr H locs hL hR hS => ?_
        obtain ⟨rfl, hin⟩ := hc
        obtain ⟨e1, e2, e3, e4⟩ := hR.cell he (fun x q => by cases q)
        show W _ _ _ _ _ _ _ _ _ _ _ _ _ _ _ (F0 mm pc arr (.int k :: .ref (jx_ad b n1 a) :: st2.map (jx_cv b n1)))
        rw [e1]
        exact va_lald C.1 C.2.1 C.2.2.2.2.2.2.1 (jx_one e4) 0 1 rfl (jx_tys_at aC (by decide)) (jx_vp hin) hd (kk arr H locs hL hR hS)
      · cases ha
    · cases ha
  · cases ha
theorem jx_s_aaload (C : jx_Ctx p R s mm args meth c m b n1 D aC)  (hd : decode (jx_mi m).2.1 pc = .ok (.aaload, 1))  (ha : jx_act pc (.aaload, 1, x, y, v) ls st h = some (.inl (pc', ls', st', h'))) (kk : jx_K p l e R s mm args below meth c Q k0 z0 m b n1 D aC pc' ls' st' h') : jx_K p l e R s mm args below meth c Q k0 z0 m b n1 D aC pc ls st h := by
  simp only [jx_act] at ha
  split at ha
  · rename_i k a st2
    split at ha
    · rename_i t n f he
      split at ha
      · rename_i hc
        simp only [jx_go, Option.some.injEq, Sum.inl.injEq, Prod.mk.injEq] at ha
        obtain ⟨rfl, rfl, rfl, rfl⟩ := ha
        refine fun arr H locs hL hR hS => ?_
        obtain ⟨⟨ht1, ht2⟩, hin⟩ := hc
        obtain ⟨e1, e2, e3, e4⟩ := hR.cell he (fun x q => by cases q; omega)
        show W _ _ _ _ _ _ _ _ _ _ _ _ _ _ _ (F0 mm pc arr (.int k :: .ref (jx_ad b n1 a) :: st2.map (jx_cv b n1)))
        rw [e1]
        have ht := jx_tys_at aC ht2
        rw [jx_tyO ht1 ht2] at ht
        have k1 := kk arr H locs hL hR hS
        rw [List.map_cons, jx_cv_rf] at k1
        exact va_aldq (f := fun j => (f j).map (jx_ad b n1)) C.1 C.2.1 C.2.2.2.2.2.2.1 (jx_one e4) 0 t rfl ht (jx_vp hin) hd k1
      · cases ha
    · cases ha
  · cases ha
theorem jx_s_iastore (C : jx_Ctx p R s mm args meth c m b n1 D aC)  (hd : decode (jx_mi m).2.1 pc = .ok (.iastore, 1))  (ha : jx_act pc (.iastore, 1, x, y, v) ls st h = some (.inl (pc', ls', st', h'))) (kk : jx_K p l e R s mm args below meth c Q k0 z0 m b n1 D aC pc' ls' st' h') : jx_K p l e R s mm args below meth c Q k0 z0 m b n1 D aC pc ls st h := by
  simp only [jx_act] at ha
  split at ha
  · rename_i w k a st2
    split at ha
    · rename_i t n f he
      split at ha
      · rename_i hc
        simp only [jx_go, Option.some.injEq, Sum.inl.injEq, Prod.mk.injEq] at ha
        obtain ⟨rfl, rfl, rfl, rfl⟩ := ha
        refine fun arr H locs hL hR hS => ?_
        obtain ⟨rfl, hin⟩ := hc
        obtain ⟨e1, e2, e3, e4⟩ := hR.cell he (fun x q => by cases q)
        show W _ _ _ _ _ _ _ _ _ _ _ _ _ _ _ (F0 mm pc arr (.int w :: .int k :: .ref (jx_ad b n1 a) :: st2.map (jx_cv b n1)))
        rw [e1]
        refine W.iast C.1 C.2.1 e4 ((jx_nK C (t := 0) (by decide) rfl).1 n (fun j => .int (f j))) (fun q => by cases q) (by show ¬ (k < 0 ∨ (arrV _ _ _).slots.size ≤ _); rw [arrV_size]; exact jx_vp hin) rfl rfl hd fun H1 e5 z oq => ?_
        refine kk arr H1 _ hL (hR.set C.2.2.2.2.2.2.2.2.2.2.1 ⟨e2, e3⟩ (fun x q => by cases q) z oq ?_) (hS.put z oq (by show n1 < n1 + a; omega))
        show H1[n1 + a]? = some (vp_cell _ _)
        rw [e5]
        show some ((vp_cell (aC 0) (n, .inl f)).setSlot _ _) = some (vp_cell (aC 0) (n, .inl (upd f k.toNatClampNeg w)))
        rw [vp_cell_i, vp_cell_i, arrV_store]
        congr 2
        funext q
        by_cases hq : q = k.toNatClampNeg
        · subst hq; simp [updV, upd]
        · simp [updV, upd, hq]
      · cases ha
    · cases ha
  · cases ha
theorem jx_s_lastore (C : jx_Ctx p R s mm args meth c m b n1 D aC)  (hd : decode (jx_mi m).2.1 pc = .ok (.lastore, 1))  (ha : jx_act pc (.lastore, 1, x, y, v) ls st h = some (.inl (pc', ls', st', h'))) (kk : jx_K p l e R s mm args below meth c Q k0 z0 m b n1 D aC pc' ls' st' h') : jx_K p l e R s mm args below meth c Q k0 z0 m b n1 D aC pc ls st h := by
  simp only [jx_act] at ha
  split at ha
  · rename_i w k a st2
    split at ha
    · rename_i t n f he
      split at ha
      · rename_i hc
        simp only [jx_go, Option.some.injEq, Sum.inl.injEq, Prod.mk.injEq] at ha
        obtain ⟨rfl, rfl, rfl, rfl⟩ := ha
        refine fun arr H locs hL hR hS => ?_
        obtain ⟨rfl, hin⟩ := hc
        obtain ⟨e1, e2, e3, e4⟩ := hR.cell he (fun x q => by cases q)
        show W _ _ _ _ _ _ _ _ _ _ _ _ _ _ _ (F0 mm pc arr (.long w :: .int k :: .ref (jx_ad b n1 a) :: st2.map (jx_cv b n1)))
        rw [e1]
        refine W.last C.1 C.2.1 e4 ((jx_nK C (t := 1) (by decide) rfl).1 n (fun j => .long (f j))) (fun q => by cases q) (by show ¬ (k < 0 ∨ (arrV _ _ _).slots.size ≤ _); rw [arrV_size]; exact jx_vp hin) rfl rfl hd fun H1 e5 z oq => ?_
        refine kk arr H1 _ hL (hR.set C.2.2.2.2.2.2.2.2.2.2.1 ⟨e2, e3⟩ (fun x q => by cases q) z oq ?_) (hS.put z oq (by show n1 < n1 + a; omega))
        show H1[n1 + a]? = some (vp_cell _ _)
        rw [e5]
        show some ((vp_cell (aC 1) (n, .inr (.inl f))).setSlot _ _) = some (vp_cell (aC 1) (n, .inr (.inl (vp_updL f k.toNatClampNeg w))))
        rw [vp_cell_l, vp_cell_l, arrV_store]
        congr 2
        funext q
        by_cases hq : q = k.toNatClampNeg
        · subst hq; simp [updV, vp_updL]
        · simp [updV, vp_updL, hq]
      · cases ha
    · cases ha
  · cases ha
theorem jx_s_bastore (C : jx_Ctx p R s mm args meth c m b n1 D aC)  (hd : decode (jx_mi m).2.1 pc = .ok (.bastore, 1))  (ha : jx_act pc (.bastore, 1, x, y, v) ls st h = some (.inl (pc', ls', st', h'))) (kk : jx_K p l e R s mm args below meth c Q k0 z0 m b n1 D aC pc' ls' st' h') : jx_K p l e R s mm args below meth c Q k0 z0 m b n1 D aC pc ls st h := by
  simp only [jx_act] at ha
  split at ha
  · rename_i w k a st2
    split at ha
    · rename_i t n f he
      split at ha
      · rename_i hc
        simp only [jx_go, Option.some.injEq, Sum.inl.injEq, Prod.mk.injEq] at ha
        obtain ⟨rfl, rfl, rfl, rfl⟩ := ha
        refine fun arr H locs hL hR hS => ?_
        obtain ⟨rfl, hin⟩ := hc
        obtain ⟨e1, e2, e3, e4⟩ := hR.cell he (fun x q => by cases q)
        show W _ _ _ _ _ _ _ _ _ _ _ _ _ _ _ (F0 mm pc arr (.int w :: .int k :: .ref (jx_ad b n1 a) :: st2.map (jx_cv b n1)))
        rw [e1]
        refine W.bast C.1 C.2.1 e4 ((jx_nK C (t := 2) (by decide) rfl).1 n (fun j => .int (f j))) (fun q => by cases q) (by show ¬ (k < 0 ∨ (arrV _ _ _).slots.size ≤ _); rw [arrV_size]; exact jx_vp hin) rfl rfl hd fun H1 e5 z oq => ?_
        refine kk arr H1 _ hL (hR.set C.2.2.2.2.2.2.2.2.2.2.1 ⟨e2, e3⟩ (fun x q => by cases q) z oq ?_) (hS.put z oq (by show n1 < n1 + a; omega))
        show H1[n1 + a]? = some (vp_cell _ _)
        rw [e5]
        show some ((vp_cell (aC 2) (n, .inl f)).setSlot _ _) = some (vp_cell (aC 2) (n, .inl (upd f k.toNatClampNeg (vp_nar .byte w))))
        rw [vp_cell_i, vp_cell_i, arrV_store]
        congr 2
        funext q
        by_cases hq : q = k.toNatClampNeg
        · subst hq; simp [updV, upd, vp_nar]; try rfl
        · simp [updV, upd, hq]
      · split at ha
        · rename_i hc
          simp only [jx_go, Option.some.injEq, Sum.inl.injEq, Prod.mk.injEq] at ha
          obtain ⟨rfl, rfl, rfl, rfl⟩ := ha
          refine fun arr H locs hL hR hS => ?_
          obtain ⟨rfl, hin⟩ := hc
          obtain ⟨e1, e2, e3, e4⟩ := hR.cell he (fun x q => by cases q)
          show W _ _ _ _ _ _ _ _ _ _ _ _ _ _ _ (F0 mm pc arr (.int w :: .int k :: .ref (jx_ad b n1 a) :: st2.map (jx_cv b n1)))
          rw [e1]
          refine W.zast C.1 C.2.1 e4 ((jx_nK C (t := 3) (by decide) rfl).1 n (fun j => .int (f j))) (fun q => by cases q) (by show ¬ (k < 0 ∨ (arrV _ _ _).slots.size ≤ _); rw [arrV_size]; exact jx_vp hin) rfl rfl hd fun H1 e5 z oq => ?_
          refine kk arr H1 _ hL (hR.set C.2.2.2.2.2.2.2.2.2.2.1 ⟨e2, e3⟩ (fun x q => by cases q) z oq ?_) (hS.put z oq (by show n1 < n1 + a; omega))
          show H1[n1 + a]? = some (vp_cell _ _)
          rw [e5]
          show some ((vp_cell (aC 3) (n, .inl f)).setSlot _ _) = some (vp_cell (aC 3) (n, .inl (upd f k.toNatClampNeg (vp_nar .boolean w))))
          rw [vp_cell_i, vp_cell_i, arrV_store]
          congr 2
          funext q
          by_cases hq : q = k.toNatClampNeg
          · subst hq; simp [updV, upd, vp_nar]; try rfl
          · simp [updV, upd, hq]
        · cases ha
    · cases ha
  · cases ha
end JXM
