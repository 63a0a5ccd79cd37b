/-! THE REFERENCE: its object at r, its 21 arrays behind it; R = (int arrays by field, long arrays by field, int fields, long fields) -/
abbrev rf_R : Type := (Nat → Nat → Int32) × (Nat → Nat → Int64) × (Nat → Int32) × (Nat → Int64)
def rf_tab : List (Nat × Nat × Nat × Nat) := [(0, 1, 0, 822), (1, 2, 0, 165222), (5, 3, 0, 16), (7, 4, 0, 2), (8, 5, 1, 2), (9, 6, 0, 130), (11, 7, 1, 130), (12, 8, 1, 130), (19, 9, 1, 12), (26, 10, 1, 14), (27, 11, 1, 16384), (28, 12, 0, 16384), (30, 13, 0, 48000), (31, 14, 0, 48000), (32, 15, 0, 48000), (33, 16, 1, 48000), (34, 17, 0, 2882), (35, 18, 1, 2882), (36, 19, 0, 2882), (37, 20, 3, 2882), (38, 21, 0, 2882)]
def rf_fs (r : Nat) (R : rf_R) : List Value := [.ref (r + 1), .ref (r + 2), .int (R.2.2.1 2), .int (R.2.2.1 3), .int (R.2.2.1 4), .ref (r + 3), .int (R.2.2.1 6), .ref (r + 4), .ref (r + 5), .ref (r + 6), .int (R.2.2.1 10), .ref (r + 7), .ref (r + 8), .long (R.2.2.2 13), .long (R.2.2.2 14), .long (R.2.2.2 15), .long (R.2.2.2 16), .long (R.2.2.2 17), .long (R.2.2.2 18), .ref (r + 9), .int (R.2.2.1 20), .long (R.2.2.2 21), .long (R.2.2.2 22), .long (R.2.2.2 23), .int (R.2.2.1 24), .int (R.2.2.1 25), .ref (r + 10), .ref (r + 11), .ref (r + 12), .int (R.2.2.1 29), .ref (r + 13), .ref (r + 14), .ref (r + 15), .ref (r + 16), .ref (r + 17), .ref (r + 18), .ref (r + 19), .ref (r + 20), .ref (r + 21), .int (R.2.2.1 39)]
def rf_cell (R : rf_R) (q : Nat × Nat × Nat × Nat) : jx_E := if q.2.2.1 = 1 then .inl (1, q.2.2.2, .inr (.inl (R.2.1 q.1))) else .inl (q.2.2.1, q.2.2.2, .inl (R.1 q.1))
def rf_At (r : Nat) (R : rf_R) (h : jx_H) : Prop := h.2.2 r = some (.inr (12, rf_fs r R)) ∧ ∀ q ∈ rf_tab, h.2.2 (r + q.2.1) = some (rf_cell R q)
def rf_Fr (r : Nat) (h h2 : jx_H) : Prop := h2.1 = h.1 ∧ h2.2.1 = h.2.1 ∧ ∀ a, (a < r ∨ r + 22 ≤ a) → h2.2.2 a = h.2.2 a
def rf_sA (R : rf_R) (k : Nat) (f : Nat → Int32) : rf_R := (fun j => if j = k then f else R.1 j, R.2.1, R.2.2.1, R.2.2.2)
def rf_sB (R : rf_R) (k : Nat) (f : Nat → Int64) : rf_R := (R.1, fun j => if j = k then f else R.2.1 j, R.2.2.1, R.2.2.2)
def rf_sI (R : rf_R) (k : Nat) (x : Int32) : rf_R := (R.1, R.2.1, fun j => if j = k then x else R.2.2.1 j, R.2.2.2)
def rf_sL (R : rf_R) (k : Nat) (x : Int64) : rf_R := (R.1, R.2.1, R.2.2.1, fun j => if j = k then x else R.2.2.2 j)
theorem rf_Fr.rf {r : Nat} {h : jx_H} : rf_Fr r h h := ⟨rfl, rfl, fun _ _ => rfl⟩
theorem rf_Fr.tr {r : Nat} {h h2 h3 : jx_H} (a : rf_Fr r h h2) (b : rf_Fr r h2 h3) : rf_Fr r h h3 := ⟨b.1.trans a.1, b.2.1.trans a.2.1, fun q hq => (b.2.2 q hq).trans (a.2.2 q hq)⟩
theorem rf_Fr.st {r a : Nat} {h : jx_H} {e : jx_E} (h1 : r ≤ a) (h2 : a < r + 22) : rf_Fr r h (jx_set h a e) := ⟨rfl, rfl, fun q hq => by
  show jx_up h.2.2 a e q = _
  unfold jx_up
  rw [if_neg (by omega)]⟩
theorem jx_up_ne {f : Nat → Option jx_E} {a q : Nat} {e : jx_E} (h : q ≠ a) : jx_up f a e q = f q := if_neg h
theorem jx_up_eq {f : Nat → Option jx_E} {a : Nat} {e : jx_E} : jx_up f a e a = some e := if_pos rfl
theorem rf_tab_in : ∀ q ∈ rf_tab, 1 ≤ q.2.1 ∧ q.2.1 < 22 := by decide
theorem rf_tab_ap : ∀ q ∈ rf_tab, ∀ p ∈ rf_tab, q.2.1 = p.2.1 → q = p := by decide
theorem rf_tab_fd : ∀ q ∈ rf_tab, ∀ p ∈ rf_tab, q.1 = p.1 → q = p := by decide
theorem rf_At.a {r k o t n : Nat} {R : rf_R} {h : jx_H} (H : rf_At r R h) (hq : (k, o, t, n) ∈ rf_tab) (ht : t ≠ 1) : h.2.2 (r + o) = some (.inl (t, n, .inl (R.1 k))) := by
  have := H.2 _ hq
  unfold rf_cell at this
  rw [if_neg ht] at this
  exact this
theorem rf_At.b {r k o n : Nat} {R : rf_R} {h : jx_H} (H : rf_At r R h) (hq : (k, o, 1, n) ∈ rf_tab) : h.2.2 (r + o) = some (.inl (1, n, .inr (.inl (R.2.1 k)))) := H.2 _ hq
theorem rf_At.sA {r k o t n : Nat} {R : rf_R} {h : jx_H} {f : Nat → Int32} (H : rf_At r R h) (hq : (k, o, t, n) ∈ rf_tab) (ht : t ≠ 1) : rf_At r (rf_sA R k f) (jx_set h (r + o) (.inl (t, n, .inl f))) := by
  have h1 := rf_tab_in _ hq
  refine ⟨(jx_up_ne (by show r ≠ r + o; have := h1.1; dsimp only at this; omega)).trans H.1, fun p hp => ?_⟩
  by_cases he : p.2.1 = o
  · have := rf_tab_ap p hp _ hq he
    subst this
    show jx_up _ _ _ _ = _
    rw [jx_up_eq]
    unfold rf_cell
    rw [if_neg ht]
    simp [rf_sA]
  · refine (jx_up_ne (by omega)).trans ((H.2 p hp).trans ?_)
    have hk : p.1 ≠ k := fun q => he (by rw [rf_tab_fd p hp _ hq q])
    unfold rf_cell
    split
    · rfl
    · simp [rf_sA, hk]
theorem rf_At.sB {r k o n : Nat} {R : rf_R} {h : jx_H} {f : Nat → Int64} (H : rf_At r R h) (hq : (k, o, 1, n) ∈ rf_tab) : rf_At r (rf_sB R k f) (jx_set h (r + o) (.inl (1, n, .inr (.inl f)))) := by
  have h1 := rf_tab_in _ hq
  refine ⟨(jx_up_ne (by show r ≠ r + o; have := h1.1; dsimp only at this; omega)).trans H.1, fun p hp => ?_⟩
  by_cases he : p.2.1 = o
  · have := rf_tab_ap p hp _ hq he
    subst this
    show jx_up _ _ _ _ = _
    rw [jx_up_eq]
    simp [rf_sB, rf_cell]
  · refine (jx_up_ne (by omega)).trans ((H.2 p hp).trans ?_)
    have hk : p.1 ≠ k := fun q => he (by rw [rf_tab_fd p hp _ hq q])
    unfold rf_cell
    split
    · simp [rf_sB, hk]
    · rfl
theorem rf_At.ob {r : Nat} {R R2 : rf_R} {h : jx_H} {fs : List Value} (H : rf_At r R h) (hf : rf_fs r R2 = fs) (h1 : R2.1 = R.1) (h2 : R2.2.1 = R.2.1) : rf_At r R2 (jx_set h r (.inr (12, fs))) := by
  subst hf
  refine ⟨jx_up_eq, fun p hp => ?_⟩
  have := rf_tab_in p hp
  refine (jx_up_ne (by omega)).trans ((H.2 p hp).trans ?_)
  unfold rf_cell
  rw [h1, h2]
/-- a method of the reference that changes R to R2 and answers v; one that changes nothing -/
def rf_M (m : Nat) (r : Nat) (vs : List Value) (R : rf_R) (v : Option Value) (R2 : rf_R) : Prop := ∀ h, rf_At r R h → ∃ h2, jx_T m 0 (jx_ent m vs) [] h v h2 ∧ rf_At r R2 h2 ∧ rf_Fr r h h2
def rf_P (m : Nat) (r : Nat) (vs : List Value) (R : rf_R) (v : Option Value) : Prop := ∀ h, rf_At r R h → jx_T m 0 (jx_ent m vs) [] h v h
