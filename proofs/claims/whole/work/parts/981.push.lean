/-! the works' network: pushOnce -/
def sn_c (sn : Nat → Bool) : Nat → Nat
  | 0 => 0
  | k + 1 => sn_c sn k + (if sn k = true then 1 else 0)
theorem sn_c_le (sn : Nat → Bool) : ∀ n, sn_c sn n ≤ n
  | 0 => Nat.le_refl _
  | n + 1 => by
    have := sn_c_le sn n
    unfold sn_c
    split <;> omega
theorem sn_c_set (sn : Nat → Bool) (w : Nat) (h : sn w = false) : ∀ n, sn_c (fun v => if v = w then true else sn v) n = sn_c sn n + (if w < n then 1 else 0)
  | 0 => by
    show 0 = 0 + _
    rw [if_neg (by omega)]
  | n + 1 => by
    unfold sn_c
    rw [sn_c_set sn w h n]
    by_cases e : n = w
    · subst e
      rw [if_neg (show ¬ n < n by omega), if_pos (show n < n + 1 by omega), h]
      simp
    · rw [if_neg e]
      by_cases z : w < n
      · rw [if_pos z, if_pos (show w < n + 1 by omega)]
        omega
      · rw [if_neg z, if_neg (show ¬ w < n + 1 by omega)]
        omega
/-- a set that no open way leaves -/
def nq_cut (A : List gA) (F : Nat → Option Int) (r : Nat → Int) : Prop := ∃ V : Nat → Bool, V 0 = true ∧ V 1 = false ∧ (∀ v, V v = true → ∃ x, F v = some x) ∧ ∀ i, i < 2 * A.length → ¬ r i = 0 → nq_t A F i → V (pT A i) = true → V (pY A i) = true
section
variable {g : Nat → Option jx_E} {nx s : Nat} {W : cw} {A : List gA} {N : Nat} {F : Nat → Option Int} {P : Nat → Int}
theorem kc_B2 (E : nq_env W A N F) (E2 : nq_env2 A F P) {W1 : cw} {q : List Nat} {a : Nat} {sn : Nat → Bool} {tn : Nat → List Nat} {r : Nat → Int} {D c : Int} (J : nq_J W W1 A N F q a sn tn r) (fl : nq_FL A P r D c) (D0 : Int) (sum : Int32) (hs : sum.toInt = D - D0) (n : Nat) (u7 : Value) (nxt : ∀ (W1 : cw) (q : List Nat) (a : Nat) (sn : Nat → Bool) (tn : Nat → List Nat) (u7 : Value), nq_J W W1 A N F q a sn tn r → ∃ W2 r2 D2 v, jx_T 44 53 [.ref 22, .int 0, .int 1, .int sum, .int (nI q.length), .int (nI a), .int (nI (n + 1)), u7] [] (hc W1 g nx s) (some (.int v)) (hc W2 g nx s) ∧ (km_f W W2 ∧ nt_R W2 (2 * A.length) r2) ∧ nq_FL A P r2 D2 (c + (D2 - D) * (P 1 - P 0)) ∧ v.toInt = D2 - D0 ∧ D ≤ D2) : ∃ W2 r2 D2 v, jx_T 44 99 [.ref 22, .int 0, .int 1, .int sum, .int (nI q.length), .int (nI a), .int (nI n), u7] [] (hc W1 g nx s) (some (.int v)) (hc W2 g nx s) ∧ (km_f W W2 ∧ nt_R W2 (2 * A.length) r2) ∧ nq_FL A P r2 D2 (c + (D2 - D) * (P 1 - P 0)) ∧ v.toInt = D2 - D0 ∧ D ≤ D2 := by
  have nn := fl.nn
  have more : ∀ (W1 : cw) (q : List Nat) (a : Nat) (u7 : Value) (v : Value) (h2 : jx_H), jx_T 44 53 [.ref 22, .int 0, .int 1, .int sum, .int (nI q.length), .int (nI a), .int (nI (n + 1)), u7] [] (hc W1 g nx s) (some v) h2 → jx_T 44 168 [.ref 22, .int 0, .int 1, .int sum, .int (nI q.length), .int (nI a), .int (nI n), u7] [] (hc W1 g nx s) (some v) h2 := by
    intro W1 q a u7 v h2 t
    refine jx_T.step (pc' := 171) (ls' := [_, _, _, _, _, _, _, _]) (st' := []) rfl rfl ?_
    refine jx_T.step (pc' := 53) (st' := []) rfl rfl ?_
    rw [nI_1]
    exact t
  cases hd : (tn a).dropWhile (fun i => !(op_b F (hv A) r sn i)) with
  | cons i rest =>
    obtain ⟨W2, J2, -, -, k2⟩ := kc_sB_adv (g := g) (nx := nx) (s := s) E J nn hd sum n u7
    obtain ⟨W3, r3, D3, v, t, x⟩ := nxt W2 _ _ _ _ (.int (nI i)) J2
    exact ⟨W3, r3, D3, v, k2 _ _ (more W2 (i :: q) _ _ _ _ t), x⟩
  | nil =>
    cases hq : q with
    | cons i l =>
      obtain ⟨W2, J2, k2⟩ := kc_sB_ret (g := g) (nx := nx) (s := s) E J nn E2.1 hd hq sum n u7
      obtain ⟨W3, r3, D3, v, t, x⟩ := nxt W2 _ _ _ _ (.int (-1)) J2
      rw [hq] at k2
      exact ⟨W3, r3, D3, v, k2 _ _ (more W2 l _ _ _ _ t), x⟩
    | nil =>
      obtain ⟨W2, x, t⟩ := kc_sB_brk (g := g) (nx := nx) (s := s) E J nn hd hq sum n u7
      rw [hq] at t
      exact ⟨W2, r, D, sum, t, x, by rw [Int.sub_self, Int.zero_mul, Int.add_zero]; exact fl, hs, Int.le_refl _⟩
theorem kc_ph2 (E : nq_env W A N F) (E2 : nq_env2 A F P) (D0 : Int) (h0 : 0 ≤ D0) : ∀ (d n : Nat) (sum : Int32) (W1 : cw) (q : List Nat) (a : Nat) (sn : Nat → Bool) (tn : Nat → List Nat) (r : Nat → Int) (D c : Int) (u7 : Value), n + d = 1000000 → nq_J W W1 A N F q a sn tn r → nq_FL A P r D c → D0 ≤ D → sum.toInt = D - D0 → ∃ W2 r2 D2 v, jx_T 44 53 [.ref 22, .int 0, .int 1, .int sum, .int (nI q.length), .int (nI a), .int (nI n), u7] [] (hc W1 g nx s) (some (.int v)) (hc W2 g nx s) ∧ (km_f W W2 ∧ nt_R W2 (2 * A.length) r2) ∧ nq_FL A P r2 D2 (c + (D2 - D) * (P 1 - P 0)) ∧ v.toInt = D2 - D0 ∧ D ≤ D2 := by
  intro d
  induction d with
  | zero =>
    intro n sum W1 q a sn tn r D c u7 hn J fl hD hs
    refine ⟨W1, r, D, sum, ?_, ⟨J.1, J.2.1⟩, by rw [Int.sub_self, Int.zero_mul, Int.add_zero]; exact fl, hs, Int.le_refl _⟩
    refine jx_T.step (pc' := 55) (st' := [_]) rfl rfl ?_
    refine jx_T.step (pc' := 57) (st' := [_, _]) rfl rfl ?_
    rw [rf_lit 1000000]
    refine cl.bc rfl (jx_br_ge _ _) (fun _ => ?_) (fun zq => absurd (nI_le (by omega) (by omega)) zq)
    refine jx_T.step (pc' := 175) (st' := [_]) rfl rfl ?_
    exact jx_T.ret rfl rfl
  | succ d ih =>
    intro n sum W1 q a sn tn r D c u7 hn J fl hD hs
    obtain ⟨ha, -, -⟩ := J.at E
    have hN2 := E.1.2.1
    by_cases e : a = 1
    · subst e
      obtain ⟨W2, q2, a2, sn2, r2, δ, sum2, p1, J2, fl2, hs2, k2⟩ := kc_sA (g := g) (nx := nx) (s := s) E E2 J fl D0 h0 hD sum hs n u7
      obtain ⟨W3, r3, D3, v, t, x1, x2, x3, x4⟩ := kc_B2 (g := g) (nx := nx) (s := s) E E2 J2 fl2 D0 sum2 hs2 n u7 (fun W1 q a sn tn u7 J => ih (n + 1) sum2 W1 q a sn tn r2 (D + δ) _ u7 (by omega) J fl2 (by omega) hs2)
      refine ⟨W3, r3, D3, v, ?_, x1, ?_, x3, by omega⟩
      · refine jx_T.step (pc' := 55) (st' := [_]) rfl rfl ?_
        refine jx_T.step (pc' := 57) (st' := [_, _]) rfl rfl ?_
        rw [rf_lit 1000000]
        refine cl.bc rfl (jx_br_ge _ _) (fun zq => absurd zq (nI_ge (by omega) (by omega))) (fun _ => ?_)
        refine jx_T.step (pc' := 62) (st' := [_]) rfl rfl ?_
        refine jx_T.step (pc' := 63) (st' := [_, _]) rfl rfl ?_
        refine cl.bcn rfl (fun w => absurd rfl w) (fun _ => ?_)
        exact k2 _ _ t
      · have e2 : c + δ * (P 1 - P 0) + (D3 - (D + δ)) * (P 1 - P 0) = c + (D3 - D) * (P 1 - P 0) := by
          rw [Int.add_assoc, ← Int.add_mul, show δ + (D3 - (D + δ)) = D3 - D by omega]
        rw [← e2]
        exact x2
    · obtain ⟨W3, r3, D3, v, t, x⟩ := kc_B2 (g := g) (nx := nx) (s := s) E E2 J fl D0 sum hs n u7 (fun W1 q a sn tn u7 J => ih (n + 1) sum W1 q a sn tn r D c u7 (by omega) J fl hD hs)
      refine ⟨W3, r3, D3, v, ?_, x⟩
      refine jx_T.step (pc' := 55) (st' := [_]) rfl rfl ?_
      refine jx_T.step (pc' := 57) (st' := [_, _]) rfl rfl ?_
      rw [rf_lit 1000000]
      refine cl.bc rfl (jx_br_ge _ _) (fun zq => absurd zq (nI_ge (by omega) (by omega))) (fun _ => ?_)
      refine jx_T.step (pc' := 62) (st' := [_]) rfl rfl ?_
      refine jx_T.step (pc' := 63) (st' := [_, _]) rfl rfl ?_
      refine cl.bcn rfl (fun _ => ?_) (fun w => absurd ((nI_inj (b := 1) (by omega) (by decide)).mp w) e)
      exact t
/-- before the first push: what was tried leads nowhere -/
def nq_C (A : List gA) (N : Nat) (F : Nat → Option Int) (q : List Nat) (a n : Nat) (sn : Nat → Bool) (tn : Nat → List Nat) (r : Nat → Int) : Prop := (∀ v, v < N → sn v = false → tn v = hg_adj (hv A) v) ∧ (∀ v, v < N → sn v = true → ∀ i, i ∈ hg_adj (hv A) v → i ∈ tn v ∨ (r i = 0 ∨ sn (pY A i) = true ∨ ¬ nq_t A F i)) ∧ (∀ v, v < N → sn v = true → tn v = [] ∨ v = a ∨ v ∈ q.map (pT A)) ∧ (sn 1 = true → a = 1) ∧ (∀ v, sn v = true → ∃ x, F v = some x) ∧ n + q.length + 2 = 2 * sn_c sn N
theorem kc_ph1 (E : nq_env W A N F) (E2 : nq_env2 A F P) (r : Nat → Int) (D c : Int) (fl : nq_FL A P r D c) (h0 : 0 ≤ D) : ∀ (d n : Nat) (W1 : cw) (q : List Nat) (a : Nat) (sn : Nat → Bool) (tn : Nat → List Nat) (u7 : Value), n + d = 1000000 → nq_J W W1 A N F q a sn tn r → nq_C A N F q a n sn tn r → ∃ W2 r2 D2 v, jx_T 44 53 [.ref 22, .int 0, .int 1, .int 0, .int (nI q.length), .int (nI a), .int (nI n), u7] [] (hc W1 g nx s) (some (.int v)) (hc W2 g nx s) ∧ (km_f W W2 ∧ nt_R W2 (2 * A.length) r2) ∧ nq_FL A P r2 D2 (c + (D2 - D) * (P 1 - P 0)) ∧ v.toInt = D2 - D ∧ D ≤ D2 ∧ (D2 = D → nq_cut A F r2 ∧ r2 = r) := by
  have nn := fl.nn
  have hN2 := E.1.2.1
  have z0 : (0 : Int32).toInt = D - D := by rw [Int.sub_self]; rfl
  intro d
  induction d with
  | zero =>
    intro n W1 q a sn tn u7 hn J C
    have := sn_c_le sn N
    have := C.2.2.2.2.2
    omega
  | succ d ih =>
    intro n W1 q a sn tn u7 hn J C
    obtain ⟨c0, c1, c2, c3, c5, c4⟩ := C
    obtain ⟨ha, -, sa⟩ := J.at E
    have lnq := J.len E
    by_cases e : a = 1
    · subst e
      obtain ⟨W2, q2, a2, sn2, r2, δ, sum2, p1, J2, fl2, hs2, k2⟩ := kc_sA (g := g) (nx := nx) (s := s) E E2 J fl D h0 (Int.le_refl _) 0 z0 n u7
      obtain ⟨W3, r3, D3, v, t, x1, x2, x3, x4⟩ := kc_B2 (g := g) (nx := nx) (s := s) E E2 J2 fl2 D sum2 hs2 n u7 (fun W1 q a sn tn u7 J => kc_ph2 (g := g) (nx := nx) (s := s) E E2 D h0 d (n + 1) sum2 W1 q a sn tn r2 (D + δ) _ u7 (by omega) J fl2 (by omega) hs2)
      refine ⟨W3, r3, D3, v, ?_, x1, ?_, x3, by omega, fun q => by omega⟩
      · refine jx_T.step (pc' := 55) (st' := [_]) rfl rfl ?_
        refine jx_T.step (pc' := 57) (st' := [_, _]) rfl rfl ?_
        rw [rf_lit 1000000]
        refine cl.bc rfl (jx_br_ge _ _) (fun zq => absurd zq (nI_ge (by omega) (by omega))) (fun _ => ?_)
        refine jx_T.step (pc' := 62) (st' := [_]) rfl rfl ?_
        refine jx_T.step (pc' := 63) (st' := [_, _]) rfl rfl ?_
        refine cl.bcn rfl (fun w => absurd rfl w) (fun _ => ?_)
        exact k2 _ _ t
      · have e2 : c + δ * (P 1 - P 0) + (D3 - (D + δ)) * (P 1 - P 0) = c + (D3 - D) * (P 1 - P 0) := by
          rw [Int.add_assoc, ← Int.add_mul, show δ + (D3 - (D + δ)) = D3 - D by omega]
        rw [← e2]
        exact x2
    · have s1 : sn 1 = false := by
        cases h : sn 1 with
        | false => rfl
        | true => exact absurd (c3 h) e
      have hd : ∀ {v : Option Value} {h2 : jx_H}, jx_T 44 99 [.ref 22, .int 0, .int 1, .int 0, .int (nI q.length), .int (nI a), .int (nI n), u7] [] (hc W1 g nx s) v h2 → jx_T 44 53 [.ref 22, .int 0, .int 1, .int 0, .int (nI q.length), .int (nI a), .int (nI n), u7] [] (hc W1 g nx s) v h2 := by
        intro v h2 t
        refine jx_T.step (pc' := 55) (st' := [_]) rfl rfl ?_
        refine jx_T.step (pc' := 57) (st' := [_, _]) rfl rfl ?_
        rw [rf_lit 1000000]
        refine cl.bc rfl (jx_br_ge _ _) (fun zq => absurd zq (nI_ge (by omega) (by omega))) (fun _ => ?_)
        refine jx_T.step (pc' := 62) (st' := [_]) rfl rfl ?_
        refine jx_T.step (pc' := 63) (st' := [_, _]) rfl rfl ?_
        refine cl.bcn rfl (fun _ => ?_) (fun w => absurd ((nI_inj (b := 1) (by omega) (by decide)).mp w) e)
        exact t
      have more : ∀ (W1 : cw) (q : List Nat) (a : Nat) (u7 : Value) (v : Value) (h2 : jx_H), jx_T 44 53 [.ref 22, .int 0, .int 1, .int 0, .int (nI q.length), .int (nI a), .int (nI (n + 1)), u7] [] (hc W1 g nx s) (some v) h2 → jx_T 44 168 [.ref 22, .int 0, .int 1, .int 0, .int (nI q.length), .int (nI a), .int (nI n), u7] [] (hc W1 g nx s) (some v) h2 := by
        intro W1 q a u7 v h2 t
        refine jx_T.step (pc' := 171) (ls' := [_, _, _, _, _, _, _, _]) (st' := []) rfl rfl ?_
        refine jx_T.step (pc' := 53) (st' := []) rfl rfl ?_
        rw [nI_1]
        exact t
      obtain ⟨d1, d2, d3, d4⟩ := dw_all (p := fun i => !(op_b F (hv A) r sn i)) (tn a)
      have done : ∀ i, (!(op_b F (hv A) r sn i)) = true → r i = 0 ∨ sn (pY A i) = true ∨ ¬ nq_t A F i := fun i h => op_f (by simpa using h)
      cases hdw : (tn a).dropWhile (fun i => !(op_b F (hv A) r sn i)) with
      | cons i rest =>
        obtain ⟨W2, J2, o2, hYN, k2⟩ := kc_sB_adv (g := g) (nx := nx) (s := s) E J nn hdw 0 n u7
        rw [hdw] at d1 d2
        have him := (J.2.2.2.1 a ha).2.2 i (d2 i (List.mem_cons_self ..))
        have hTa : pT A i = a := (hg_mem.mp him).2
        have up : ∀ v, sn v = true → (fun v => if v = pY A i then true else sn v) v = true := fun v h => by
          show (if v = pY A i then true else sn v) = true
          split
          · rfl
          · exact h
        have C2 : nq_C A N F (i :: q) (pY A i) (n + 1) (fun v => if v = pY A i then true else sn v) (fun v => if v = a then i :: rest else tn v) r := by
          refine ⟨fun v hvN hv0 => ?_, fun v hvN hv1 j hj => ?_, fun v hvN hv1 => ?_, fun h1 => ?_, fun v hv1 => ?_, ?_⟩
          · have hv0 : (if v = pY A i then true else sn v) = false := hv0
            by_cases z : v = pY A i
            · rw [if_pos z] at hv0
              exact absurd hv0 (by decide)
            · rw [if_neg z] at hv0
              show (if v = a then i :: rest else tn v) = _
              rw [if_neg (fun q => by rw [q, sa] at hv0; exact absurd hv0 (by decide))]
              exact c0 v hvN hv0
          · have hv1 : (if v = pY A i then true else sn v) = true := hv1
            show j ∈ (if v = a then i :: rest else tn v) ∨ _
            by_cases za : v = a
            · rw [if_pos za]
              rw [za] at hj
              rcases c1 a ha sa j hj with y | y
              · rcases d1 j y with w | w
                · exact Or.inl w
                · rcases done j w with w | w | w
                  · exact Or.inr (Or.inl w)
                  · exact Or.inr (Or.inr (Or.inl (up _ w)))
                  · exact Or.inr (Or.inr (Or.inr w))
              · rcases y with w | w | w
                · exact Or.inr (Or.inl w)
                · exact Or.inr (Or.inr (Or.inl (up _ w)))
                · exact Or.inr (Or.inr (Or.inr w))
            · rw [if_neg za]
              by_cases z : v = pY A i
              · rw [c0 v hvN (by rw [z]; exact o2)]
                exact Or.inl hj
              · rw [if_neg z] at hv1
                rcases c1 v hvN hv1 j hj with y | w | w | w
                · exact Or.inl y
                · exact Or.inr (Or.inl w)
                · exact Or.inr (Or.inr (Or.inl (up _ w)))
                · exact Or.inr (Or.inr (Or.inr w))
          · have hv1 : (if v = pY A i then true else sn v) = true := hv1
            show (if v = a then i :: rest else tn v) = [] ∨ _
            by_cases z : v = pY A i
            · exact Or.inr (Or.inl z)
            · rw [if_neg z] at hv1
              by_cases za : v = a
              · exact Or.inr (Or.inr (by rw [List.map_cons, hTa, za]; exact List.mem_cons_self ..))
              · rw [if_neg za]
                rcases c2 v hvN hv1 with y | y | y
                · exact Or.inl y
                · exact absurd y za
                · exact Or.inr (Or.inr (by rw [List.map_cons]; exact List.mem_cons_of_mem _ y))
          · have h1 : (if 1 = pY A i then true else sn 1) = true := h1
            by_cases z : 1 = pY A i
            · exact z.symm
            · rw [if_neg z, s1] at h1
              exact absurd h1 (by decide)
          · have hv1 : (if v = pY A i then true else sn v) = true := hv1
            by_cases z : v = pY A i
            · obtain ⟨x, x1, x2⟩ := (J2.2.2.2.2.2.2.2.1 i (List.mem_cons_self ..)).2.2.1
              rw [z]
              exact ⟨_, x2⟩
            · rw [if_neg z] at hv1
              exact c5 v hv1
          · rw [sn_c_set sn _ o2, if_pos hYN, List.length_cons]
            omega
        obtain ⟨W3, r3, D3, v, t, x⟩ := ih (n + 1) W2 _ _ _ _ (.int (nI i)) (by omega) J2 C2
        exact ⟨W3, r3, D3, v, hd (k2 _ _ (more W2 (i :: q) _ _ _ _ t)), x⟩
      | nil =>
        rw [hdw] at d1
        have dn : ∀ j, j ∈ tn a → r j = 0 ∨ sn (pY A j) = true ∨ ¬ nq_t A F j := fun j hj => done j ((d1 j hj).resolve_left (by simp))
        cases hq : q with
        | cons i l =>
          obtain ⟨W2, J2, k2⟩ := kc_sB_ret (g := g) (nx := nx) (s := s) E J nn E2.1 hdw hq 0 n u7
          have C2 : nq_C A N F l (pT A i) (n + 1) sn (fun v => if v = a then [] else tn v) r := by
            refine ⟨fun v hvN hv0 => ?_, fun v hvN hv1 j hj => ?_, fun v hvN hv1 => ?_, fun h1 => ?_, fun v hv1 => ?_, ?_⟩
            · show (if v = a then [] else tn v) = _
              rw [if_neg (fun q => by rw [q, sa] at hv0; exact absurd hv0 (by decide))]
              exact c0 v hvN hv0
            · show j ∈ (if v = a then [] else tn v) ∨ _
              by_cases za : v = a
              · rw [za] at hj
                exact Or.inr ((c1 a ha sa j hj).elim (dn j) id)
              · rw [if_neg za]
                exact c1 v hvN hv1 j hj
            · show (if v = a then [] else tn v) = [] ∨ _
              by_cases za : v = a
              · rw [if_pos za]
                exact Or.inl rfl
              · rw [if_neg za]
                rcases c2 v hvN hv1 with y | y | y
                · exact Or.inl y
                · exact absurd y za
                · rw [hq, List.map_cons] at y
                  rcases List.mem_cons.mp y with y | y
                  · exact Or.inr (Or.inl y)
                  · exact Or.inr (Or.inr y)
            · rw [s1] at h1
              exact absurd h1 (by decide)
            · exact c5 v hv1
            · rw [hq, List.length_cons] at c4
              omega
          obtain ⟨W3, r3, D3, v, t, x⟩ := ih (n + 1) W2 _ _ _ _ (.int (-1)) (by omega) J2 C2
          refine ⟨W3, r3, D3, v, ?_, x⟩
          rw [hq] at hd k2
          exact hd (k2 _ _ (more W2 l _ _ _ _ t))
        | nil =>
          obtain ⟨W2, x, t⟩ := kc_sB_brk (g := g) (nx := nx) (s := s) E J nn hdw hq 0 n u7
          refine ⟨W2, r, D, 0, ?_, x, by rw [Int.sub_self, Int.zero_mul, Int.add_zero]; exact fl, z0, Int.le_refl _, fun _ => ⟨⟨sn, J.2.2.2.2.2.2.2.2, s1, c5, fun i hi hr ht hs => ?_⟩, rfl⟩⟩
          · rw [hq] at hd t
            exact hd t
          · have hvl := hv_len A
            have hTN : pT A i < N := (E.1.2.2 i (by rw [hvl]; exact hi)).1
            have hm : i ∈ hg_adj (hv A) (pT A i) := hg_mem.mpr ⟨by rw [hvl]; exact hi, rfl⟩
            have fin : (r i = 0 ∨ sn (pY A i) = true ∨ ¬ nq_t A F i) → sn (pY A i) = true := fun h => by
              rcases h with h | h | h
              · exact absurd h hr
              · exact h
              · exact absurd ht h
            rcases c1 _ hTN hs i hm with y | y
            · rcases c2 _ hTN hs with w | w | w
              · rw [w] at y
                exact absurd y (by simp)
              · rw [w] at y
                exact fin (dn i y)
              · rw [hq] at w
                exact absurd w (by simp)
            · exact fin y
end
