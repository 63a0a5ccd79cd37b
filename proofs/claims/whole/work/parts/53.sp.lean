/-! shortest ways by a queue: the theory, for both sides -/
abbrev sp_A : Type := Nat → List (Nat × Int)
abbrev sp_S : Type := (Nat → Option Int) × List Nat
/-- a way of k arcs from s to v, so long -/
def sp_W (adj : sp_A) (s : Nat) : Nat → Nat → Int → Prop
  | 0, v, x => v = s ∧ x = 0
  | k + 1, v, x => ∃ u y c, sp_W adj s k u y ∧ (v, c) ∈ adj u ∧ x = y + c
def sp_D (adj : sp_A) (s v : Nat) (x : Int) : Prop := (∃ k, sp_W adj s k v x) ∧ ∀ k y, sp_W adj s k v y → x ≤ y
def sp_lt (y : Int) : Option Int → Bool
  | none => true
  | some z => decide (y < z)
def sp_rlx (a : Nat) (st : sp_S) (e : Nat × Int) : sp_S :=
  match st.1 a with
  | none => st
  | some x => if sp_lt (x + e.2) (st.1 e.1) = true then ((fun v => if v = e.1 then some (x + e.2) else st.1 v), if e.1 ∈ st.2 then st.2 else st.2 ++ [e.1]) else st
def sp_step (adj : sp_A) (st : sp_S) : sp_S :=
  match st.2 with
  | [] => st
  | a :: Q => (adj a).foldl (sp_rlx a) (st.1, Q)
def sp_it (adj : sp_A) : Nat → sp_S → sp_S
  | 0, st => st
  | k + 1, st => sp_it adj k (sp_step adj st)
/-- a potential that holds, n nodes, a start -/
def sp_ok (adj : sp_A) (n s : Nat) (p : Nat → Int) : Prop := s < n ∧ ∀ a b c, a < n → (b, c) ∈ adj a → b < n ∧ p b ≤ p a + c
def sp_I4 (_ : sp_A) (st : sp_S) (v : Nat) (l : List (Nat × Int)) : Prop := ∀ x, st.1 v = some x → v ∉ st.2 → ∀ b c, (b, c) ∈ l → ∃ y, st.1 b = some y ∧ y ≤ x + c
def sp_I3 (adj : sp_A) (n s : Nat) (st : sp_S) : Prop := st.1 s = some 0 ∧ (∀ v x, st.1 v = some x → v < n ∧ ∃ k, sp_W adj s k v x) ∧ st.2.Nodup ∧ ∀ v, v ∈ st.2 → v < n ∧ ∃ x, st.1 v = some x
def sp_I (adj : sp_A) (n s : Nat) (st : sp_S) : Prop := sp_I3 adj n s st ∧ ∀ v, sp_I4 adj st v (adj v)
section
variable {adj : sp_A} {n s : Nat} {p : Nat → Int} {st : sp_S}
theorem sp_W_lt (ok : sp_ok adj n s p) : ∀ k v x, sp_W adj s k v x → v < n ∧ p v - p s ≤ x
  | 0, v, x, h => by
    obtain ⟨rfl, rfl⟩ := h
    exact ⟨ok.1, by omega⟩
  | k + 1, v, x, h => by
    obtain ⟨u, y, c, h1, h2, rfl⟩ := h
    obtain ⟨g1, g2⟩ := sp_W_lt ok k u y h1
    obtain ⟨g3, g4⟩ := ok.2 u v c g1 h2
    exact ⟨g3, by omega⟩
theorem sp_D_ex (ok : sp_ok adj n s p) {k v : Nat} {x : Int} (h : sp_W adj s k v x) : ∃ y, sp_D adj s v y := by
  have key : ∀ m : Nat, ∀ k x, sp_W adj s k v x → (x - (p v - p s)).toNat ≤ m → ∃ y, sp_D adj s v y := by
    intro m
    induction m with
    | zero =>
      intro k x h hm
      have := (sp_W_lt ok k v x h).2
      refine ⟨x, ⟨k, h⟩, fun j y hy => ?_⟩
      have := (sp_W_lt ok j v y hy).2
      omega
    | succ m ih =>
      intro k x h hm
      by_cases q : ∃ j y, sp_W adj s j v y ∧ y < x
      · obtain ⟨j, y, q1, q2⟩ := q
        have := (sp_W_lt ok j v y q1).2
        exact ih j y q1 (by omega)
      · refine ⟨x, ⟨k, h⟩, fun j y hy => ?_⟩
        exact Int.not_lt.mp (fun q2 => q ⟨j, y, hy, q2⟩)
  exact key _ k x h (Nat.le_refl _)
theorem sp_D_un {v : Nat} {x y : Int} (a : sp_D adj s v x) (b : sp_D adj s v y) : x = y := by
  obtain ⟨⟨k, hk⟩, h1⟩ := a
  obtain ⟨⟨j, hj⟩, h2⟩ := b
  exact Int.le_antisymm (h1 j y hj) (h2 k x hk)
/-- one arc -/
theorem sp_rlx_ok (ok : sp_ok adj n s p) {a : Nat} {l : List (Nat × Int)} {e : Nat × Int} {st : sp_S} (ha : a < n) (he : e ∈ adj a) (hf : ∃ x, st.1 a = some x) (i3 : sp_I3 adj n s st) (i4 : ∀ v, v ≠ a → sp_I4 adj st v (adj v)) (i5 : sp_I4 adj st a l) : sp_I3 adj n s (sp_rlx a st e) ∧ (∀ v, v ≠ a → sp_I4 adj (sp_rlx a st e) v (adj v)) ∧ sp_I4 adj (sp_rlx a st e) a (l ++ [e]) ∧ ∃ x, (sp_rlx a st e).1 a = some x := by
  obtain ⟨x, hx⟩ := hf
  obtain ⟨b, c⟩ := e
  obtain ⟨hb, hp⟩ := ok.2 a b c ha he
  obtain ⟨i31, i32, i33, i34⟩ := i3
  obtain ⟨k, hk⟩ := (i32 a x hx).2
  have wb : sp_W adj s (k + 1) b (x + c) := ⟨a, x, c, hk, he, rfl⟩
  have e1 : sp_rlx a st (b, c) = if sp_lt (x + c) (st.1 b) = true then ((fun v => if v = b then some (x + c) else st.1 v), if b ∈ st.2 then st.2 else st.2 ++ [b]) else st := by
    unfold sp_rlx
    rw [hx]
  rw [e1]
  by_cases z : sp_lt (x + c) (st.1 b) = true
  · rw [if_pos z]
    have hab : ¬ a = b := by
      intro q
      subst q
      rw [hx] at z
      have := of_decide_eq_true z
      omega
    have hsb : ¬ s = b := by
      intro q
      subst q
      rw [i31] at z
      have z1 := of_decide_eq_true z
      have := (sp_W_lt ok (k + 1) s (x + c) wb).2
      omega
    have hm : ∀ v, v ∈ (if b ∈ st.2 then st.2 else st.2 ++ [b]) ↔ v ∈ st.2 ∨ v = b := by
      intro v
      by_cases q : b ∈ st.2
      · rw [if_pos q]
        exact ⟨Or.inl, fun h => h.elim id (fun h => h ▸ q)⟩
      · rw [if_neg q, List.mem_append, List.mem_singleton]
    have low : ∀ w y, st.1 w = some y → ∃ y2, (if w = b then some (x + c) else st.1 w) = some y2 ∧ y2 ≤ y := by
      intro w y hy
      by_cases q : w = b
      · rw [if_pos q]
        subst q
        rw [hy] at z
        have := of_decide_eq_true z
        exact ⟨x + c, rfl, by omega⟩
      · rw [if_neg q]
        exact ⟨y, hy, Int.le_refl y⟩
    have keep : ∀ v l, sp_I4 adj st v l → sp_I4 adj ((fun v => if v = b then some (x + c) else st.1 v), if b ∈ st.2 then st.2 else st.2 ++ [b]) v l := by
      intro v l h y hy hq d g hd
      have hq2 := fun q => hq ((hm v).mpr q)
      have hvb : ¬ v = b := fun q => hq2 (Or.inr q)
      have hy2 : st.1 v = some y := by
        have : (if v = b then some (x + c) else st.1 v) = some y := hy
        rw [if_neg hvb] at this
        exact this
      obtain ⟨w, hw, hw2⟩ := h y hy2 (fun q => hq2 (Or.inl q)) d g hd
      obtain ⟨w2, h3, h4⟩ := low d w hw
      exact ⟨w2, h3, by omega⟩
    refine ⟨⟨?_, ?_, ?_, ?_⟩, fun v hv => keep v _ (i4 v hv), ?_, ?_⟩
    · show (if s = b then _ else st.1 s) = _
      rw [if_neg hsb]
      exact i31
    · intro v y hy
      have hy : (if v = b then some (x + c) else st.1 v) = some y := hy
      by_cases q : v = b
      · rw [if_pos q] at hy
        obtain rfl : x + c = y := Option.some.inj hy
        subst q
        exact ⟨hb, k + 1, wb⟩
      · rw [if_neg q] at hy
        exact i32 v y hy
    · show (if b ∈ st.2 then st.2 else st.2 ++ [b]).Nodup
      by_cases q : b ∈ st.2
      · rw [if_pos q]
        exact i33
      · rw [if_neg q]
        refine List.nodup_append.mpr ⟨i33, List.nodup_cons.mpr ⟨by simp, List.nodup_nil⟩, ?_⟩
        intro u hu w hw
        rw [List.mem_singleton] at hw
        subst hw
        exact fun e => q (e ▸ hu)
    · intro v hv
      rcases (hm v).mp hv with q | q
      · obtain ⟨h1, y, h2⟩ := i34 v q
        obtain ⟨y2, h3, -⟩ := low v y h2
        exact ⟨h1, y2, h3⟩
      · subst q
        exact ⟨hb, x + c, if_pos rfl⟩
    · intro y hy hq d g hd
      rcases List.mem_append.mp hd with hd | hd
      · exact keep a l i5 y hy hq d g hd
      · rw [List.mem_singleton] at hd
        obtain ⟨rfl, rfl⟩ := Prod.mk.inj hd
        have hy : (if a = d then some (x + g) else st.1 a) = some y := hy
        rw [if_neg hab, hx] at hy
        obtain rfl : x = y := Option.some.inj hy
        exact ⟨x + g, if_pos rfl, Int.le_refl _⟩
    · refine ⟨x, ?_⟩
      show (if a = b then _ else st.1 a) = _
      rw [if_neg hab]
      exact hx
  · rw [if_neg z]
    refine ⟨⟨i31, i32, i33, i34⟩, i4, ?_, x, hx⟩
    intro y hy hq d g hd
    rcases List.mem_append.mp hd with hd | hd
    · exact i5 y hy hq d g hd
    · rw [List.mem_singleton] at hd
      obtain ⟨rfl, rfl⟩ := Prod.mk.inj hd
      rw [hx] at hy
      obtain rfl : x = y := Option.some.inj hy
      cases hw : st.1 d with
      | none =>
        rw [hw] at z
        exact absurd rfl z
      | some w =>
        rw [hw] at z
        have : ¬ (x + g < w) := fun q => z (decide_eq_true q)
        exact ⟨w, rfl, by omega⟩
theorem sp_fold_ok (ok : sp_ok adj n s p) {a : Nat} (ha : a < n) : ∀ (l2 l1 : List (Nat × Int)) (st : sp_S), (∀ e, e ∈ l2 → e ∈ adj a) → (∃ x, st.1 a = some x) → sp_I3 adj n s st → (∀ v, v ≠ a → sp_I4 adj st v (adj v)) → sp_I4 adj st a l1 → sp_I3 adj n s (l2.foldl (sp_rlx a) st) ∧ (∀ v, v ≠ a → sp_I4 adj (l2.foldl (sp_rlx a) st) v (adj v)) ∧ sp_I4 adj (l2.foldl (sp_rlx a) st) a (l1 ++ l2)
  | [], l1, st, _, _, i3, i4, i5 => ⟨i3, i4, by rw [List.append_nil]; exact i5⟩
  | e :: l2, l1, st, hl, hf, i3, i4, i5 => by
    obtain ⟨g1, g2, g3, g4⟩ := sp_rlx_ok ok ha (hl e (List.mem_cons_self ..)) hf i3 i4 i5
    have := sp_fold_ok ok ha l2 (l1 ++ [e]) (sp_rlx a st e) (fun x hx => hl x (List.mem_cons_of_mem _ hx)) g4 g1 g2 g3
    rw [List.append_assoc] at this
    exact this
theorem sp_step_ok (ok : sp_ok adj n s p) {st : sp_S} (i : sp_I adj n s st) : sp_I adj n s (sp_step adj st) := by
  obtain ⟨f, Q⟩ := st
  cases Q with
  | nil => exact i
  | cons a Q =>
    obtain ⟨⟨i1, i2, i3, i4⟩, i5⟩ := i
    obtain ⟨ha, x, hx⟩ := i4 a (List.mem_cons_self ..)
    obtain ⟨n1, n2⟩ := List.nodup_cons.mp i3
    show sp_I adj n s ((adj a).foldl (sp_rlx a) (f, Q))
    have h := sp_fold_ok ok ha (adj a) [] (f, Q) (fun e he => he) ⟨x, hx⟩ ⟨i1, i2, n2, fun v hv => i4 v (List.mem_cons_of_mem _ hv)⟩ (fun v hv y hy hq => i5 v y hy (fun q => by
      rcases List.mem_cons.mp q with q | q
      · exact hv q
      · exact hq q)) (fun _ _ _ _ _ h => absurd h (by simp))
    refine ⟨h.1, fun v => ?_⟩
    by_cases e : v = a
    · subst e
      exact h.2.2
    · exact h.2.1 v e
theorem sp_it_ok (ok : sp_ok adj n s p) : ∀ k {st : sp_S}, sp_I adj n s st → sp_I adj n s (sp_it adj k st)
  | 0, _, i => i
  | k + 1, _, i => sp_it_ok ok k (sp_step_ok ok i)
/-- a node whose label is done for good -/
def sp_Z (adj : sp_A) (s : Nat) (st : sp_S) (v : Nat) : Prop := v ∉ st.2 ∧ ∀ x, sp_D adj s v x → st.1 v = some x
theorem sp_fin (i : sp_I adj n s st) (hq : ∀ v x, v ∈ st.2 → st.1 v = some x → ¬ sp_D adj s v x) : ∀ k v x, sp_W adj s k v x → sp_D adj s v x → st.1 v = some x
  | 0, v, x, h, _ => by
    obtain ⟨rfl, rfl⟩ := h
    exact i.1.1
  | k + 1, v, x, h, hd => by
    obtain ⟨u, y, c, h1, h2, rfl⟩ := h
    have du : sp_D adj s u y := ⟨⟨k, h1⟩, fun j z hz => by
      have := hd.2 (j + 1) (z + c) ⟨u, z, c, hz, h2, rfl⟩
      omega⟩
    have fu := sp_fin i hq k u y h1 du
    obtain ⟨z, z1, z2⟩ := i.2 u y fu (fun q => hq u y q fu du) v c h2
    obtain ⟨j, hj⟩ := (i.1.2.1 v z z1).2
    have := hd.2 j z hj
    rw [z1, show z = y + c by omega]
theorem sp_first (ok : sp_ok adj n s p) (i : sp_I adj n s st) (hne : st.2 ≠ []) : ∃ v x, v ∈ st.2 ∧ st.1 v = some x ∧ sp_D adj s v x := by
  refine Classical.byContradiction (fun q => ?_)
  have hq : ∀ v x, v ∈ st.2 → st.1 v = some x → ¬ sp_D adj s v x := fun v x h1 h2 h3 => q ⟨v, x, h1, h2, h3⟩
  obtain ⟨v, hv⟩ := List.exists_mem_of_ne_nil _ hne
  obtain ⟨-, x, hx⟩ := i.1.2.2.2 v hv
  obtain ⟨k, hk⟩ := (i.1.2.1 v x hx).2
  obtain ⟨y, hy⟩ := sp_D_ex ok hk
  obtain ⟨j, hj⟩ := hy.1
  have := sp_fin i hq j v y hj hy
  exact hq v y hv this hy
theorem sp_rlx_Z (ok : sp_ok adj n s p) {a v : Nat} {e : Nat × Int} {st : sp_S} (he : e ∈ adj a) (i2 : ∀ v x, st.1 v = some x → v < n ∧ ∃ k, sp_W adj s k v x) (hv : ∀ x, sp_D adj s v x → st.1 v = some x) : (∀ x, sp_D adj s v x → (sp_rlx a st e).1 v = some x) ∧ (v ∈ (sp_rlx a st e).2 → v ∈ st.2) := by
  obtain ⟨b, c⟩ := e
  unfold sp_rlx
  cases hx : st.1 a with
  | none => exact ⟨hv, id⟩
  | some x =>
    dsimp only
    by_cases z : sp_lt (x + c) (st.1 b) = true
    · rw [if_pos z]
      have hvb : ¬ v = b := by
        intro q
        subst q
        obtain ⟨k, hk⟩ := (i2 a x hx).2
        have wb : sp_W adj s (k + 1) v (x + c) := ⟨a, x, c, hk, he, rfl⟩
        obtain ⟨y, hy⟩ := sp_D_ex ok wb
        rw [hv y hy] at z
        have := of_decide_eq_true z
        have := hy.2 _ _ wb
        omega
      refine ⟨fun y hy => ?_, fun h => ?_⟩
      · show (if v = b then _ else st.1 v) = _
        rw [if_neg hvb]
        exact hv y hy
      · have h : v ∈ (if b ∈ st.2 then st.2 else st.2 ++ [b]) := h
        by_cases q : b ∈ st.2
        · rw [if_pos q] at h
          exact h
        · rw [if_neg q, List.mem_append, List.mem_singleton] at h
          exact h.resolve_right hvb
    · rw [if_neg z]
      exact ⟨hv, id⟩
theorem sp_rlx_2 (ok : sp_ok adj n s p) {a : Nat} {e : Nat × Int} {st : sp_S} (he : e ∈ adj a) (i2 : ∀ v x, st.1 v = some x → v < n ∧ ∃ k, sp_W adj s k v x) : ∀ v x, (sp_rlx a st e).1 v = some x → v < n ∧ ∃ k, sp_W adj s k v x := by
  obtain ⟨b, c⟩ := e
  unfold sp_rlx
  cases hx : st.1 a with
  | none => exact i2
  | some x =>
    dsimp only
    by_cases z : sp_lt (x + c) (st.1 b) = true
    · rw [if_pos z]
      intro v y hy
      have hy : (if v = b then some (x + c) else st.1 v) = some y := hy
      by_cases q : v = b
      · rw [if_pos q] at hy
        obtain rfl : x + c = y := Option.some.inj hy
        subst q
        obtain ⟨h1, k, hk⟩ := i2 a x hx
        exact ⟨(ok.2 a v c h1 he).1, k + 1, a, x, c, hk, he, rfl⟩
      · rw [if_neg q] at hy
        exact i2 v y hy
    · rw [if_neg z]
      exact i2
theorem sp_fold_Z (ok : sp_ok adj n s p) {a v : Nat} : ∀ (l : List (Nat × Int)) (st : sp_S), (∀ e, e ∈ l → e ∈ adj a) → (∀ v x, st.1 v = some x → v < n ∧ ∃ k, sp_W adj s k v x) → (∀ x, sp_D adj s v x → st.1 v = some x) → (∀ x, sp_D adj s v x → (l.foldl (sp_rlx a) st).1 v = some x) ∧ (v ∈ (l.foldl (sp_rlx a) st).2 → v ∈ st.2)
  | [], _, _, _, hv => ⟨hv, id⟩
  | e :: l, st, hl, i2, hv => by
    have he := hl e (List.mem_cons_self ..)
    obtain ⟨g1, g2⟩ := sp_rlx_Z ok he i2 hv
    obtain ⟨g3, g4⟩ := sp_fold_Z ok l (sp_rlx a st e) (fun x hx => hl x (List.mem_cons_of_mem _ hx)) (sp_rlx_2 ok he i2) g1
    exact ⟨g3, fun h => g2 (g4 h)⟩
theorem sp_rlx_ext (a : Nat) (st : sp_S) (e : Nat × Int) : ∃ q, (sp_rlx a st e).2 = st.2 ++ q := by
  unfold sp_rlx
  cases st.1 a with
  | none => exact ⟨[], (List.append_nil _).symm⟩
  | some x =>
    dsimp only
    by_cases z : sp_lt (x + e.2) (st.1 e.1) = true
    · rw [if_pos z]
      by_cases q : e.1 ∈ st.2
      · exact ⟨[], by show (if e.1 ∈ st.2 then st.2 else _) = _; rw [if_pos q, List.append_nil]⟩
      · exact ⟨[e.1], by show (if e.1 ∈ st.2 then st.2 else _) = _; rw [if_neg q]⟩
    · rw [if_neg z]
      exact ⟨[], (List.append_nil _).symm⟩
theorem sp_fold_ext (a : Nat) : ∀ (l : List (Nat × Int)) (st : sp_S), ∃ q, (l.foldl (sp_rlx a) st).2 = st.2 ++ q
  | [], _ => ⟨[], (List.append_nil _).symm⟩
  | e :: l, st => by
    obtain ⟨q1, h1⟩ := sp_rlx_ext a st e
    obtain ⟨q2, h2⟩ := sp_fold_ext a l (sp_rlx a st e)
    exact ⟨q1 ++ q2, by show (l.foldl (sp_rlx a) (sp_rlx a st e)).2 = _; rw [h2, h1, List.append_assoc]⟩
theorem sp_step_f (ok : sp_ok adj n s p) (i : sp_I adj n s st) {v : Nat} (hv : ∀ x, sp_D adj s v x → st.1 v = some x) : (∀ x, sp_D adj s v x → (sp_step adj st).1 v = some x) ∧ (v ∈ (sp_step adj st).2 → v ∈ st.2.tail) := by
  obtain ⟨f, Q⟩ := st
  cases Q with
  | nil => exact ⟨hv, id⟩
  | cons a Q => exact sp_fold_Z ok (adj a) (f, Q) (fun e he => he) i.1.2.1 hv
theorem sp_step_Z (ok : sp_ok adj n s p) (i : sp_I adj n s st) {v : Nat} (h : sp_Z adj s st v) : sp_Z adj s (sp_step adj st) v := by
  obtain ⟨g1, g2⟩ := sp_step_f ok i h.2
  exact ⟨fun q => h.1 (List.mem_of_mem_tail (g2 q)), g1⟩
theorem sp_it_Z (ok : sp_ok adj n s p) {v : Nat} : ∀ k {st : sp_S}, sp_I adj n s st → sp_Z adj s st v → sp_Z adj s (sp_it adj k st) v
  | 0, _, _, h => h
  | k + 1, _, i, h => sp_it_Z ok k (sp_step_ok ok i) (sp_step_Z ok i h)
theorem sp_phase (ok : sp_ok adj n s p) {v : Nat} : ∀ (Q1 : List Nat) {Q2 : List Nat} {st : sp_S}, sp_I adj n s st → st.2 = Q1 ++ v :: Q2 → (∀ x, sp_D adj s v x → st.1 v = some x) → sp_Z adj s (sp_it adj (Q1.length + 1) st) v
  | [], Q2, st, i, hq, hv => by
    obtain ⟨g1, g2⟩ := sp_step_f ok i hv
    refine ⟨fun q => ?_, g1⟩
    have := g2 q
    rw [hq] at this
    have n1 := i.1.2.2.1
    rw [hq] at n1
    exact (List.nodup_cons.mp n1).1 this
  | a :: Q1, Q2, st, i, hq, hv => by
    obtain ⟨g1, g2⟩ := sp_step_f ok i hv
    obtain ⟨f, Q⟩ := st
    have hq : Q = a :: (Q1 ++ v :: Q2) := hq
    subst hq
    obtain ⟨ex, hex⟩ := sp_fold_ext a (adj a) (f, Q1 ++ v :: Q2)
    refine sp_phase ok Q1 (Q2 := Q2 ++ ex) (sp_step_ok ok i) ?_ g1
    show ((adj a).foldl (sp_rlx a) (f, Q1 ++ v :: Q2)).2 = _
    rw [hex]
    simp
theorem sp_it_add : ∀ (j k : Nat) (st : sp_S), sp_it adj (j + k) st = sp_it adj k (sp_it adj j st)
  | 0, k, st => by rw [Nat.zero_add]; rfl
  | j + 1, k, st => by
    rw [show j + 1 + k = (j + k) + 1 by omega]
    exact sp_it_add j k (sp_step adj st)
theorem sp_it_nil {st : sp_S} (h : st.2 = []) : ∀ k, sp_it adj k st = st
  | 0 => rfl
  | k + 1 => by
    have : sp_step adj st = st := by
      unfold sp_step
      rw [h]
    show sp_it adj k (sp_step adj st) = st
    rw [this]
    exact sp_it_nil h k
theorem sp_len : ∀ (n : Nat) (l : List Nat), l.Nodup → (∀ v, v ∈ l → v < n) → l.length ≤ n
  | 0, l, _, h => by
    cases l with
    | nil => exact Nat.le_refl 0
    | cons a l => exact absurd (h a (List.mem_cons_self ..)) (by omega)
  | n + 1, l, hn, h => by
    have h1 : (l.erase n).length ≤ n := sp_len n (l.erase n) (hn.erase n) (fun v hv => by
      have h2 := (hn.mem_erase_iff).mp hv
      have := h v h2.2
      have := h2.1
      omega)
    by_cases q : n ∈ l
    · rw [List.length_erase_of_mem q] at h1
      omega
    · rw [List.erase_of_not_mem q] at h1
      omega
def sp_tri : Nat → Nat
  | 0 => 0
  | k + 1 => sp_tri k + (k + 1)
theorem sp_end (ok : sp_ok adj n s p) : ∀ (m : Nat) (st : sp_S) (Z : List Nat), sp_I adj n s st → Z.Nodup → (∀ v, v ∈ Z → v < n ∧ sp_Z adj s st v) → Z.length + m = n → (sp_it adj (sp_tri m) st).2 = []
  | m, st, Z, i, hz, hZ, hl => by
    have nd : (st.2 ++ Z).Nodup := List.nodup_append.mpr ⟨i.1.2.2.1, hz, fun u hu w hw e => (hZ w hw).2.1 (e ▸ hu)⟩
    have hle : (st.2 ++ Z).length ≤ n := sp_len n _ nd (fun v hv => by
      rcases List.mem_append.mp hv with h | h
      · exact (i.1.2.2.2 v h).1
      · exact (hZ v h).1)
    rw [List.length_append] at hle
    by_cases hq : st.2 = []
    · rw [sp_it_nil hq]
      exact hq
    · obtain ⟨v, x, hv, hx, hd⟩ := sp_first ok i hq
      obtain ⟨Q1, Q2, hQ⟩ := List.append_of_mem hv
      have hql : st.2.length = Q1.length + 1 + Q2.length := by
        rw [hQ, List.length_append, List.length_cons]
        omega
      have hvn := (i.1.2.2.2 v hv).1
      cases m with
      | zero => omega
      | succ m =>
        have i2 := sp_it_ok ok st.2.length i
        have z1 : sp_Z adj s (sp_it adj st.2.length st) v := by
          rw [hql, sp_it_add]
          exact sp_it_Z ok _ (sp_it_ok ok _ i) (sp_phase ok Q1 i hQ (fun y hy => by rw [hx, sp_D_un hd hy]))
        have h := sp_end ok m (sp_it adj st.2.length st) (v :: Z) i2 (List.nodup_cons.mpr ⟨fun q => (hZ v q).2.1 hv, hz⟩) (fun w hw => by
          rcases List.mem_cons.mp hw with q | q
          · subst q
            exact ⟨hvn, z1⟩
          · exact ⟨(hZ w q).1, sp_it_Z ok _ i (hZ w q).2⟩) (by rw [List.length_cons]; omega)
        rw [← sp_it_add] at h
        obtain ⟨k, hk⟩ : ∃ k, sp_tri (m + 1) = st.2.length + sp_tri m + k := ⟨m + 1 - st.2.length, by
          show sp_tri m + (m + 1) = _
          omega⟩
        rw [hk, sp_it_add, sp_it_nil h]
        exact h
def sp_0 (s : Nat) : sp_S := (fun v => if v = s then some 0 else none, [s])
theorem sp_0_I (ok : sp_ok adj n s p) : sp_I adj n s (sp_0 s) := by
  refine ⟨⟨if_pos rfl, fun v x hx => ?_, List.nodup_cons.mpr ⟨by simp, List.nodup_nil⟩, fun v hv => ?_⟩, fun v x hx hq => ?_⟩
  · have hx : (if v = s then some (0 : Int) else none) = some x := hx
    by_cases q : v = s
    · rw [if_pos q] at hx
      exact ⟨q ▸ ok.1, 0, q, (Option.some.inj hx).symm⟩
    · rw [if_neg q] at hx
      exact absurd hx (by simp)
  · have : v = s := List.mem_singleton.mp hv
    exact ⟨this ▸ ok.1, 0, if_pos this⟩
  · have hx : (if v = s then some (0 : Int) else none) = some x := hx
    by_cases q : v = s
    · exact absurd (List.mem_singleton.mpr q) hq
    · rw [if_neg q] at hx
      exact absurd hx (by simp)
/-- the queue is empty in time, and the labels are the least lengths -/
theorem sp_main (ok : sp_ok adj n s p) (K : Nat) (hK : sp_tri n ≤ K) : (sp_it adj K (sp_0 s)).2 = [] ∧ ∀ v x, (sp_it adj K (sp_0 s)).1 v = some x ↔ sp_D adj s v x := by
  have e : (sp_it adj K (sp_0 s)).2 = [] := by
    have h := sp_end ok n (sp_0 s) [] (sp_0_I ok) List.nodup_nil (fun v hv => absurd hv (by simp)) (by simp)
    obtain ⟨k, hk⟩ : ∃ k, K = sp_tri n + k := ⟨K - sp_tri n, by omega⟩
    rw [hk, sp_it_add, sp_it_nil h]
    exact h
  have i := sp_it_ok ok K (sp_0_I ok)
  have f : ∀ v x, sp_D adj s v x → (sp_it adj K (sp_0 s)).1 v = some x := by
    intro v x hd
    obtain ⟨k, hk⟩ := hd.1
    exact sp_fin i (fun w y hw => absurd hw (by rw [e]; simp)) k v x hk hd
  refine ⟨e, fun v x => ⟨fun h => ?_, f v x⟩⟩
  obtain ⟨k, hk⟩ := (i.1.2.1 v x h).2
  obtain ⟨y, hy⟩ := sp_D_ex ok hk
  have := f v y hy
  rw [h] at this
  rw [Option.some.inj this]
  exact hy
/-- labels stay small -/
def sp_cnt (f : Nat → Option Int) : Nat → Nat
  | 0 => 0
  | k + 1 => if f k = none then sp_cnt f k else sp_cnt f k + 1
theorem sp_cnt_le (f : Nat → Option Int) : ∀ n, sp_cnt f n ≤ n
  | 0 => Nat.le_refl 0
  | n + 1 => by
    have := sp_cnt_le f n
    unfold sp_cnt
    split <;> omega
theorem sp_cnt_set (f : Nat → Option Int) (b : Nat) (y : Int) : ∀ n, sp_cnt (fun v => if v = b then some y else f v) n = if b < n ∧ f b = none then sp_cnt f n + 1 else sp_cnt f n
  | 0 => by simp [sp_cnt]
  | n + 1 => by
    have ih := sp_cnt_set f b y n
    unfold sp_cnt
    rw [ih]
    by_cases q : n = b
    · subst q
      rw [if_pos rfl, if_neg (by simp), if_neg (show ¬ (n < n ∧ f n = none) by omega)]
      by_cases w : f n = none
      · rw [if_pos ⟨by omega, w⟩, if_pos w]
      · rw [if_neg (fun h => w h.2), if_neg w]
    · rw [if_neg q]
      by_cases w : f n = none
      · rw [if_pos w, if_pos w]
        by_cases z : b < n ∧ f b = none
        · rw [if_pos z, if_pos ⟨by omega, z.2⟩]
        · rw [if_neg z, if_neg (fun h => z ⟨by omega, h.2⟩)]
      · rw [if_neg w, if_neg w]
        by_cases z : b < n ∧ f b = none
        · rw [if_pos z, if_pos ⟨by omega, z.2⟩]
        · rw [if_neg z, if_neg (fun h => z ⟨by omega, h.2⟩)]
def sp_U (n : Nat) (C : Int) (st : sp_S) : Prop := ∀ v x, st.1 v = some x → x + C ≤ C * (sp_cnt st.1 n : Int)
theorem sp_rlx_U {C : Int} (hC : 0 ≤ C) {a : Nat} {e : Nat × Int} {st : sp_S} (hb : e.1 < n) (hc : e.2 ≤ C) (u : sp_U n C st) : sp_U n C (sp_rlx a st e) := by
  obtain ⟨b, c⟩ := e
  unfold sp_rlx
  cases hx : st.1 a with
  | none => exact u
  | some x =>
    dsimp only at hb hc ⊢
    by_cases z : sp_lt (x + c) (st.1 b) = true
    · rw [if_pos z]
      intro v y hy
      have hy : (if v = b then some (x + c) else st.1 v) = some y := hy
      show y + C ≤ C * (sp_cnt (fun v => if v = b then some (x + c) else st.1 v) n : Int)
      rw [sp_cnt_set]
      have ux := u a x hx
      by_cases w : st.1 b = none
      · rw [if_pos ⟨hb, w⟩]
        have e1 : C * ((sp_cnt st.1 n + 1 : Nat) : Int) = C * (sp_cnt st.1 n : Int) + C := by
          rw [Int.natCast_add, Int.mul_add]
          simp
        by_cases q : v = b
        · rw [if_pos q] at hy
          have := Option.some.inj hy
          omega
        · rw [if_neg q] at hy
          have := u v y hy
          omega
      · rw [if_neg (fun h => w h.2)]
        by_cases q : v = b
        · rw [if_pos q] at hy
          have h1 := Option.some.inj hy
          cases hw : st.1 b with
          | none => exact absurd hw w
          | some t =>
            rw [hw] at z
            have := of_decide_eq_true z
            have := u b t hw
            omega
        · rw [if_neg q] at hy
          exact u v y hy
    · rw [if_neg z]
      exact u
end
