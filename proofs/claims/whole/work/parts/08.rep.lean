/-! SOUNDNESS, first: our heap beside the machine's -/
def jx_ad (b n1 a : Nat) : Nat := if a = 0 then b else n1 + a
def jx_cv (b n1 : Nat) (v : Value) : Value := match v with
  | .ref a => .ref (jx_ad b n1 a)
  | v => v
def jx_cA (b n1 : Nat) (x : vp_A) : vp_A := match x with
  | (n, .inr (.inr (.inr (.inr f)))) => (n, .inr (.inr (.inr (.inr fun j => (f j).map (jx_ad b n1)))))
  | x => x
def jx_cE (b n1 : Nat) (aC : Nat → ClassId) (e : jx_E) : va_E := match e with
  | .inl (t, x) => .inl (aC t, jx_cA b n1 x)
  | .inr (ci, fs) => .inr (ci, fs.map (jx_cv b n1))
def jx_tys (aC : Nat → ClassId) : List (ClassId × FieldType) := (List.range 8).map fun t => (aC t, jx_aty.getD t .int)
theorem jx_tys_at (aC : Nat → ClassId) {t : Nat} (h : t < 8) : (jx_tys aC)[t]? = some (aC t, jx_aty.getD t .int) := by
  simp [jx_tys, h]
def jx_Rep (b n1 : Nat) (D : va_G) (aC : Nat → ClassId) (s : State) (h : jx_H) (H : Heap) : Prop :=
  H.size = n1 + h.1 ∧ 0 < h.1 ∧ ∀ (a : Nat) (e : jx_E), h.2.2 a = some e → (a = 0 ∧ ∃ (n : Nat) (f : Nat → Int32), e = .inl (98, n, .inl f) ∧ va_X b n f s H) ∨ (0 < a ∧ a < h.1 ∧ (∀ x, e ≠ .inl (98, x)) ∧ va_at D jx_cl (n1 + a, jx_cE b n1 aC e) H)
theorem jx_Rep.moved {b n1 : Nat} {D : va_G} {aC : Nat → ClassId} {s U : State} {h : jx_H} {H : Heap} (hvm : s.vm.Alike U.vm) (hR : jx_Rep b n1 D aC s h H) : jx_Rep b n1 D aC U h H := by
  refine ⟨hR.1, hR.2.1, fun a e he => ?_⟩
  rcases hR.2.2 a e he with ⟨h0, n, f, h1, h2⟩ | h1
  · exact Or.inl ⟨h0, n, f, h1, h2.moved hvm⟩
  · exact Or.inr h1
theorem jx_ad_pos {b n1 a : Nat} (h : 0 < a) : jx_ad b n1 a = n1 + a := by simp [jx_ad, Nat.pos_iff_ne_zero.mp h]
/-- a cell that isn't the script -/
theorem jx_Rep.cell {b n1 : Nat} {D : va_G} {aC : Nat → ClassId} {s : State} {h : jx_H} {H : Heap} {a : Nat} {e : jx_E} (hR : jx_Rep b n1 D aC s h H) (he : h.2.2 a = some e) (hn : ∀ x, e ≠ .inl (98, x)) : jx_ad b n1 a = n1 + a ∧ 0 < a ∧ a < h.1 ∧ va_at D jx_cl (n1 + a, jx_cE b n1 aC e) H := by
  rcases hR.2.2 a e he with ⟨-, n, f, h1, -⟩ | ⟨h1, h2, -, h4⟩
  · exact absurd h1 (hn _)
  · exact ⟨jx_ad_pos h1, h1, h2, h4⟩
theorem jx_one {D : va_G} {cl : List vw_C} {q : Nat × va_E} {H : Heap} (h : va_at D cl q H) : va_P D cl [q] H := by
  intro k q' hq
  match k, hq with
  | 0, hq => cases hq; exact h
  | k + 1, hq => simp at hq
theorem jx_Rep.set {b n1 : Nat} {D : va_G} {aC : Nat → ClassId} {s : State} {h : jx_H} {H H1 : Heap} {a : Nat} {e : jx_E} (hb : b ≤ n1) (hR : jx_Rep b n1 D aC s h H) (ha : 0 < a ∧ a < h.1) (hn : ∀ x, e ≠ .inl (98, x)) (hz : H1.size = H.size) (hk : ∀ q, q ≠ n1 + a → H1[q]? = H[q]?) (he : va_at D jx_cl (n1 + a, jx_cE b n1 aC e) H1) : jx_Rep b n1 D aC s (jx_set h a e) H1 := by
  refine ⟨by rw [hz]; exact hR.1, hR.2.1, fun q e' hq => ?_⟩
  by_cases hqa : q = a
  · subst hqa
    have : e' = e := by
      have h1 : jx_up h.2.2 q e q = some e' := hq
      simp [jx_up] at h1
      exact h1.symm
    subst this
    exact Or.inr ⟨ha.1, ha.2, hn, he⟩
  · have h1 : h.2.2 q = some e' := by
      have h1 : jx_up h.2.2 a e q = some e' := hq
      simpa [jx_up, hqa] using h1
    rcases hR.2.2 q e' h1 with ⟨h0, n, f, h2, h3⟩ | ⟨h2, h3, h4, h5⟩
    · exact Or.inl ⟨h0, n, f, h2, h3.kept (hk b (by omega))⟩
    · exact Or.inr ⟨h2, h3, h4, h5.kept (hk _ (by show n1 + q ≠ n1 + a; omega))⟩
theorem jx_Rep.push {b n1 : Nat} {D : va_G} {aC : Nat → ClassId} {s : State} {h : jx_H} {H H1 : Heap} {z : Nat} {e : jx_E} (hb : b ≤ n1) (hR : jx_Rep b n1 D aC s h H) (hn : ∀ x, e ≠ .inl (98, x)) (hz : H1.size = H.size + 1) (hk : ∀ q, q < H.size → H1[q]? = H[q]?) (he : va_at D jx_cl (n1 + h.1, jx_cE b n1 aC e) H1) : jx_Rep b n1 D aC s (jx_new h z e) H1 := by
  refine ⟨by rw [hz, hR.1]; show n1 + h.1 + 1 = n1 + (h.1 + 1); omega, Nat.succ_pos _, fun q e' hq => ?_⟩
  by_cases hqa : q = h.1
  · subst hqa
    have : e' = e := by
      have h1 : jx_up h.2.2 h.1 e h.1 = some e' := hq
      simp [jx_up] at h1
      exact h1.symm
    subst this
    exact Or.inr ⟨hR.2.1, Nat.lt_succ_self _, hn, he⟩
  · have h1 : h.2.2 q = some e' := by
      have h1 : jx_up h.2.2 h.1 e q = some e' := hq
      simpa [jx_up, hqa] using h1
    rcases hR.2.2 q e' h1 with ⟨h0, n, f, h2, h3⟩ | ⟨h2, h3, h4, h5⟩
    · exact Or.inl ⟨h0, n, f, h2, h3.kept (hk b (by rw [hR.1]; have := hR.2.1; omega))⟩
    · exact Or.inr ⟨h2, Nat.lt_succ_of_lt h3, h4, h5.kept (hk _ (by show n1 + q < H.size; rw [hR.1]; omega))⟩
/-- locals -/
def jx_LR (b n1 : Nat) (ls : List Value) (arr : Array Slot) (nL : Nat) : Prop := arr.size = nL ∧ ls.length = nL ∧ lv_wf arr ∧ ∀ (k : Nat) (v : Value), ls[k]? = some v → (∀ r, v ≠ .retAddr r) → arr[k]? = some (.val (jx_cv b n1 v))
def jx_lv (b n1 : Nat) (ls : List Value) : List (Nat × Value) := (List.range ls.length).filterMap fun (k : Nat) => match (ls[k]? : Option Value) with
  | some (Value.retAddr _) => none
  | some v => some (k, jx_cv b n1 v)
  | none => none
theorem jx_lv_mem {b n1 : Nat} {ls : List Value} {k : Nat} {w : Value} : (k, w) ∈ jx_lv b n1 ls ↔ ∃ v, ls[k]? = some v ∧ (∀ r, v ≠ .retAddr r) ∧ w = jx_cv b n1 v := by
  unfold jx_lv
  rw [List.mem_filterMap]
  constructor
  · rintro ⟨j, hj, h⟩
    cases hl : ls[j]? with
    | none => rw [hl] at h; simp at h
    | some v =>
      rw [hl] at h
      cases v <;> simp at h <;> (obtain ⟨rfl, rfl⟩ := h; exact ⟨_, hl, (fun r hr => by cases hr), rfl⟩)
  · rintro ⟨v, h1, h2, rfl⟩
    refine ⟨k, List.mem_range.mpr (List.getElem?_eq_some_iff.mp h1).1, ?_⟩
    rw [h1]
    cases v <;> first | rfl | exact absurd rfl (h2 _)
theorem jx_LR.has {b n1 : Nat} {ls : List Value} {arr : Array Slot} {nL : Nat} (h : jx_LR b n1 ls arr nL) : lv_has arr nL (jx_lv b n1 ls) := by
  refine ⟨h.1, h.2.2.1, fun q hq => ?_⟩
  obtain ⟨k, w⟩ := q
  obtain ⟨v, h1, h2, rfl⟩ := jx_lv_mem.mp hq
  exact h.2.2.2 k v h1 h2
theorem jx_cv_cat (b n1 : Nat) (v : Value) : (jx_cv b n1 v).category = v.category := by cases v <;> rfl
theorem jx_kill_len (ls : List Value) (k : Nat) : (jx_kill ls k).length = ls.length := by
  unfold jx_kill
  split
  · rfl
  · split <;> simp
/-- what is left behind a store -/
theorem jx_kill_at {ls : List Value} {i k : Nat} {w : Value} (h : (jx_kill ls i)[k]? = some w) (hv : ∀ r, w ≠ .retAddr r) : ls[k]? = some w ∧ ¬ (k + 1 = i ∧ w.category = 2) := by
  unfold jx_kill at h
  split at h
  · exact ⟨h, fun q => by omega⟩
  · rename_i j
    split at h
    · rename_i a ha
      rw [List.getElem?_set] at h
      split at h
      · split at h
        · cases h; exact absurd rfl (hv _)
        · cases h
      · exact ⟨h, fun q => by omega⟩
    · rename_i a ha
      rw [List.getElem?_set] at h
      split at h
      · split at h
        · cases h; exact absurd rfl (hv _)
        · cases h
      · exact ⟨h, fun q => by omega⟩
    · rename_i h1 h2
      refine ⟨h, fun q => ?_⟩
      have hk : k = j := by omega
      subst hk
      cases w <;> simp [Value.category] at q
      · exact h1 _ h
      · exact h2 _ h
theorem jx_LR.st1 {b n1 : Nat} {ls : List Value} {arr arr' : Array Slot} {nL i : Nat} {v : Value} (h : jx_LR b n1 ls arr nL) (hc : v.category = 1) (h' : lv_has arr' nL ((i, jx_cv b n1 v) :: (jx_lv b n1 ls).filter (fun q => !(q.1 == i) && !(q.1 + 1 == i && q.2.category == 2)))) : jx_LR b n1 (jx_st1 ls i v) arr' nL := by
  refine ⟨h'.1, by rw [jx_st1, List.length_set, jx_kill_len]; exact h.2.1, h'.2.1, fun k w hk hw => ?_⟩
  unfold jx_st1 at hk
  rw [List.getElem?_set] at hk
  split at hk
  · rename_i hik
    subst hik
    split at hk
    · cases hk; exact h'.2.2 (i, jx_cv b n1 v) List.mem_cons_self
    · cases hk
  · rename_i hik
    obtain ⟨h1, h2⟩ := jx_kill_at hk hw
    refine h'.2.2 (k, jx_cv b n1 w) (List.mem_cons_of_mem _ (List.mem_filter.mpr ⟨jx_lv_mem.mpr ⟨w, h1, hw, rfl⟩, ?_⟩))
    simp only [jx_cv_cat]
    simp only [Bool.and_eq_true, Bool.not_eq_true', beq_eq_false_iff_ne, Bool.and_eq_false_iff, ne_eq]
    refine ⟨fun q => hik q.symm, ?_⟩
    by_cases q : k + 1 = i
    · exact Or.inr fun q2 => h2 ⟨q, q2⟩
    · exact Or.inl q
theorem jx_LR.st2 {b n1 : Nat} {ls : List Value} {arr arr' : Array Slot} {nL i : Nat} {v : Value} (h : jx_LR b n1 ls arr nL) (h' : lv_has arr' nL ((i, jx_cv b n1 v) :: (jx_lv b n1 ls).filter (fun q => !(q.1 == i) && (!(q.1 == i + 1) && !(q.1 + 1 == i && q.2.category == 2))))) : jx_LR b n1 (jx_st2 ls i v) arr' nL := by
  refine ⟨h'.1, by rw [jx_st2, List.length_set, List.length_set, jx_kill_len]; exact h.2.1, h'.2.1, fun k w hk hw => ?_⟩
  unfold jx_st2 at hk
  rw [List.getElem?_set] at hk
  split at hk
  · split at hk
    · cases hk; exact absurd rfl (hw _)
    · cases hk
  · rename_i hik1
    rw [List.getElem?_set] at hk
    split at hk
    · rename_i hik
      subst hik
      split at hk
      · cases hk; exact h'.2.2 (i, jx_cv b n1 v) List.mem_cons_self
      · cases hk
    · rename_i hik
      obtain ⟨h1, h2⟩ := jx_kill_at hk hw
      refine h'.2.2 (k, jx_cv b n1 w) (List.mem_cons_of_mem _ (List.mem_filter.mpr ⟨jx_lv_mem.mpr ⟨w, h1, hw, rfl⟩, ?_⟩))
      simp only [jx_cv_cat]
      simp only [Bool.and_eq_true, Bool.not_eq_true', beq_eq_false_iff_ne, Bool.and_eq_false_iff, ne_eq]
      refine ⟨fun q => hik q.symm, fun q => hik1 q.symm, ?_⟩
      by_cases q : k + 1 = i
      · exact Or.inr fun q2 => h2 ⟨q, q2⟩
      · exact Or.inl q
/-- the locals at a method's entry -/
theorem jx_args_c1 (vs : List Value) (v : Value) (hc : v.category = 1) : jx_args (v :: vs) = v :: jx_args vs := by cases v <;> first | rfl | (simp [Value.category] at hc)
theorem jx_args_c2 (vs : List Value) (v : Value) (hc : v.category = 2) : jx_args (v :: vs) = v :: .retAddr 0 :: jx_args vs := by cases v <;> first | rfl | (simp [Value.category] at hc)
theorem jx_args_has (b n1 : Nat) (vs : List Value) : ∀ (i k : Nat) (w : Value), (jx_args vs)[k]? = some w → (∀ r, w ≠ .retAddr r) → (i + k, jx_cv b n1 w) ∈ lv_args i (vs.map (jx_cv b n1)) := by
  induction vs with
  | nil => intro i k w h; simp [jx_args] at h
  | cons v vs ih =>
    intro i k w h hw
    rcases lv_cat v with hc | hc
    · have e : lv_args i ((v :: vs).map (jx_cv b n1)) = (i, jx_cv b n1 v) :: lv_args (i + 1) (vs.map (jx_cv b n1)) := by
        show (i, jx_cv b n1 v) :: lv_args (if (jx_cv b n1 v).category = 2 then i + 2 else i + 1) _ = _
        rw [jx_cv_cat, hc]; rfl
      rw [e]
      rw [jx_args_c1 vs v hc] at h
      match k, h with
      | 0, h => simp at h; subst h; exact List.mem_cons_self
      | k + 1, h =>
        have h2 : (jx_args vs)[k]? = some w := by simpa using h
        have := ih (i + 1) k w h2 hw
        rw [show i + (k + 1) = i + 1 + k by omega]
        exact List.mem_cons_of_mem _ this
    · have e : lv_args i ((v :: vs).map (jx_cv b n1)) = (i, jx_cv b n1 v) :: lv_args (i + 2) (vs.map (jx_cv b n1)) := by
        show (i, jx_cv b n1 v) :: lv_args (if (jx_cv b n1 v).category = 2 then i + 2 else i + 1) _ = _
        rw [jx_cv_cat, hc]; rfl
      rw [e]
      rw [jx_args_c2 vs v hc] at h
      match k, h with
      | 0, h => simp at h; subst h; exact List.mem_cons_self
      | 1, h => simp at h; exact absurd h.symm (hw _)
      | k + 2, h =>
        have h2 : (jx_args vs)[k]? = some w := by simpa using h
        have := ih (i + 2) k w h2 hw
        rw [show i + (k + 2) = i + 2 + k by omega]
        exact List.mem_cons_of_mem _ this
theorem jx_args_len (b n1 : Nat) (vs : List Value) : (lg_sl (vs.map (jx_cv b n1))).length = (jx_args vs).length := by
  induction vs with
  | nil => rfl
  | cons v vs ih =>
    have e : lg_sl ((v :: vs).map (jx_cv b n1)) = (if (jx_cv b n1 v).category = 2 then [Slot.val (jx_cv b n1 v), Slot.second] else [Slot.val (jx_cv b n1 v)]) ++ lg_sl (vs.map (jx_cv b n1)) := by
      simp [lg_sl]
    rw [e, List.length_append, ih, jx_cv_cat]
    rcases lv_cat v with hc | hc
    · rw [jx_args_c1 vs v hc, hc]; simp; omega
    · rw [jx_args_c2 vs v hc, hc]; simp; omega
theorem jx_LR.entry (b n1 m : Nat) (vs : List Value) (h : (jx_args vs).length ≤ (jx_mi m).2.2.1) : jx_LR b n1 (jx_ent m vs) ((lg_sl (vs.map (jx_cv b n1)) ++ List.replicate ((jx_mi m).2.2.1 - (lg_sl (vs.map (jx_cv b n1))).length) Slot.unset).toArray) (jx_mi m).2.2.1 := by
  have hl := jx_args_len b n1 vs
  have he := lv_entry (vs.map (jx_cv b n1)) (n := (jx_mi m).2.2.1) (by rw [hl]; exact h)
  refine ⟨he.1, by simp [jx_ent]; omega, he.2.1, fun k v hk hv => ?_⟩
  unfold jx_ent at hk
  by_cases hkl : k < (jx_args vs).length
  · rw [List.getElem?_append_left hkl] at hk
    have := jx_args_has b n1 vs 0 k v hk hv
    rw [Nat.zero_add] at this
    exact he.2.2 _ this
  · rw [List.getElem?_append_right (by omega)] at hk
    have := List.mem_of_getElem? hk
    exact absurd (List.eq_of_mem_replicate this) (hv 0)
