/-! acts of the reference: copy -/
theorem rf_add64 (a b : Int32) : (a.toInt64 + b.toInt64).toInt = a.toInt + b.toInt := by
  have h1 := Int32.le_toInt a
  have h2 := Int32.toInt_lt a
  have h3 := Int32.le_toInt b
  have h4 := Int32.toInt_lt b
  rw [Int64.toInt_add, rf_w, rf_w]
  exact Int.bmod_eq_of_le (by omega) (by omega)
theorem rf_gt64 (x y : Int64) : (0 < lg_cmp x y) ↔ y.toInt < x.toInt := by rw [lg_cmp_gt0, Int64.lt_iff_toInt_lt]
theorem rf_lt0 (x : Int32) : x < 0 ↔ x.toInt < 0 := by rw [Int32.lt_iff_toInt_lt]; rfl
theorem rf_nn {x : Int32} (h : ¬ x < 0) : ∃ j : Nat, j < 2 ^ 31 ∧ x = nI j := by
  obtain ⟨j, hj, e⟩ := rf_nI (x := x) (n := 2 ^ 31 - 1) ⟨Int.not_lt.mp (fun q => h ((rf_lt0 x).mpr q)), by have := Int32.toInt_lt x; omega⟩ (by decide)
  exact ⟨j, by omega, e⟩
def rf_fl (N : Nat → Int32) (k : Nat) : Int32 := if N (290 + 18 * k) = -1 then 0 else N (290 + 18 * k + 1)
def rf_cpc (N : Nat → Int32) (k o l1 l2 : Nat) (i j n : Int32) : Int32 := if n < 0 ∨ i < 0 ∨ j < 0 then 3 else if N (290 + 18 * k) = -1 ∨ N (290 + 18 * o) = -1 then 4 else if (l1 : Int) < i.toInt + n.toInt ∨ (l2 : Int) < j.toInt + n.toInt then 5 else if N (290 + 18 * k) = N (290 + 18 * o) then 0 else 6
def rf_cpR (R : rf_R) (B D k o i j n : Nat) : rf_R := rf_acts (rf_sA (rf_sA R 5 (rf_put (R.1 5) (fun c => R.1 0 (290 + 18 * k + 2 + i + c)) 0 n)) 0 (rf_put (R.1 0) (fun c => R.1 0 (290 + 18 * k + 2 + i + c)) (290 + 18 * o + 2 + j) n)) B D
theorem rc_copy_1 (r : Nat) (R : rf_R) (k i o j n : Int32) (hb : ¬ ((0 ≤ k.toInt ∧ k.toInt ≤ 7) ∧ (0 ≤ o.toInt ∧ o.toInt ≤ 7))) : rf_C 142 r [.ref r, .int k, .int i, .int o, .int j, .int n] R (some (.int 1)) R := by
  intro h H
  show rf_G r 142 0 [.ref r, .int k, .int i, .int o, .int j, .int n, .retAddr 0] [] h _ _
  refine rf_G.step (pc' := 1) (st' := [_]) rfl rfl ?_
  refine rf_G.step (pc' := 2) (st' := [_, _]) rfl rfl ?_
  refine rf_G.v1I H rfl (by decide) rfl ⟨Nat.le_of_ble_eq_true rfl, rfl⟩ (Nat.le_of_ble_eq_true rfl) (rc_isSheetI r R k) (fun h H => ?_)
  refine rf_G.br rfl (jx_br_eq _ _) (fun z => ?_) (fun z => ?_)
  · refine rf_G.step (pc' := 17) (st' := [_]) rfl rfl ?_
    exact rf_G.ret H rfl rfl
  · have z1 := Decidable.not_not.mp (fun y => z ((rf_o_0 _).mpr y))
    refine rf_G.step (pc' := 9) (st' := [_]) rfl rfl ?_
    refine rf_G.step (pc' := 10) (st' := [_, _]) rfl rfl ?_
    refine rf_G.v1I H rfl (by decide) rfl ⟨Nat.le_of_ble_eq_true rfl, rfl⟩ (Nat.le_of_ble_eq_true rfl) (rc_isSheetI r R o) (fun h H => ?_)
    refine rf_G.brn rfl (fun z => absurd ((rf_o_0 _).mpr (fun t => hb ⟨z1, t⟩)) z) (fun _ => ?_)
    refine rf_G.step (pc' := 17) (st' := [_]) rfl rfl ?_
    exact rf_G.ret H rfl rfl
theorem rc_copy_ok (r : Nat) (R : rf_R) (B D : Nat) (hB : B < 201) (hD : D ≤ 200) (e2 : R.2.2.1 2 = nI B) (e3 : R.2.2.1 3 = nI D) (k o i j n : Nat) (hk : k < 8) (ho : o < 8) (hi : i + n ≤ 16) (hj : j + n ≤ 16) : ∀ h, rf_At r R h → rf_G r 142 105 [.ref r, .int (nI k), .int (nI i), .int (nI o), .int (nI j), .int (nI n), .retAddr 0] [] h (some (.int 0)) (rf_cpR R B D k o i j n) := by
  have loop2 : ∀ (R : rf_R) (g : Nat → Int32), R.2.2.1 2 = nI B → R.2.2.1 3 = nI D → (∀ c, c < n → R.1 5 c = g c) → ∀ d c, c + d = n → ∀ h, rf_At r (rf_sA R 0 (rf_put (R.1 0) g (290 + 18 * o + 2 + j) c)) h → rf_G r 142 151 [.ref r, .int (nI k), .int (nI i), .int (nI o), .int (nI j), .int (nI n), .int (nI c)] [] h (some (.int 0)) (rf_acts (rf_sA R 0 (rf_put (R.1 0) g (290 + 18 * o + 2 + j) n)) B D) := by
    intro R g e2 e3 hg d
    induction d with
    | zero =>
      intro c hc h H
      obtain rfl : c = n := by omega
      refine rf_G.step (pc' := 153) (st' := [_]) rfl rfl ?_
      refine rf_G.step (pc' := 155) (st' := [_, _]) rfl rfl ?_
      refine rf_G.bc rfl (jx_br_ge _ _) (fun _ => ?_) (fun z => absurd (Int32.le_refl _) z)
      refine rf_G.step (pc' := 193) (st' := [_]) rfl rfl ?_
      refine rf_G.v0I H rfl (by decide) rfl ⟨Nat.le_of_ble_eq_true rfl, rfl⟩ (Nat.le_of_ble_eq_true rfl) (rc_acts r (rf_sA R 0 (rf_put (R.1 0) g (290 + 18 * o + 2 + j) c)) B D hB hD e2 e3) (fun h H => ?_)
      exact rf_G.ret H rfl rfl
    | succ d ih =>
      intro c hc h H
      have e5 : ∀ f, (rf_sA R 0 f).1 5 c = g c := fun _ => hg c (by omega)
      refine rf_G.step (pc' := 153) (st' := [_]) rfl rfl ?_
      refine rf_G.step (pc' := 155) (st' := [_, _]) rfl rfl ?_
      refine rf_G.bc rfl (jx_br_ge _ _) (fun z => absurd z (nI_ge (by omega) (by omega))) (fun _ => ?_)
      refine rf_G.step (pc' := 159) (st' := [_]) rfl rfl ?_
      refine rf_G.get H rfl rfl ?_
      refine rf_G.step (pc' := 165) (st' := [_, _]) rfl rfl ?_
      refine rf_G.step (pc' := 167) (st' := [_, _, _]) rfl rfl ?_
      refine rf_G.step (pc' := 168) (st' := [_, _, _, _]) rfl rfl ?_
      refine rf_G.step (pc' := 169) (st' := [_, _, _]) rfl rfl ?_
      refine rf_G.step (pc' := 170) (st' := [_, _]) rfl rfl ?_
      refine rf_G.step (pc' := 171) (st' := [_, _, _]) rfl rfl ?_
      refine rf_G.step (pc' := 172) (st' := [_, _]) rfl rfl ?_
      refine rf_G.step (pc' := 174) (st' := [_, _, _]) rfl rfl ?_
      refine rf_G.step (pc' := 175) (st' := [_, _]) rfl rfl ?_
      refine rf_G.step (pc' := 177) (st' := [_, _, _]) rfl rfl ?_
      refine rf_G.step (pc' := 178) (st' := [_, _]) rfl rfl ?_
      rw [show (290 : Int32) + 18 * nI o + 2 + nI j + nI c = nI (290 + 18 * o + 2 + j + c) by rw [rf_lit 290, rf_lit 18, rf_lit 2, pk_mul, nI_add, nI_add, nI_add, nI_add]]
      refine rf_G.step (pc' := 179) (st' := [_, _, _]) rfl rfl ?_
      refine rf_G.get H rfl rfl ?_
      refine rf_G.step (pc' := 184) (st' := [_, _, _, _]) rfl rfl ?_
      refine rf_G.iald H 5 3 16 (by decide) rfl (rf_ix (by omega) (by decide)) ?_
      rw [nI_clamp (by omega), e5]
      refine rf_G.iast H 0 1 822 (by decide) rfl (rf_ix (by omega) (by decide)) (fun h H => ?_)
      rw [nI_clamp (by omega), rf_sA_sA, rf_sA_at, rf_put_s] at H
      refine rf_G.step (pc' := 189) (ls' := [_, _, _, _, _, _, _]) (st' := []) rfl rfl ?_
      refine rf_G.step (pc' := 151) (st' := []) rfl rfl ?_
      rw [nI_1]
      exact ih (c + 1) (by omega) h H
  have loop1 : ∀ d c, c + d = n → ∀ h, rf_At r (rf_sA R 5 (rf_put (R.1 5) (fun c => R.1 0 (290 + 18 * k + 2 + i + c)) 0 c)) h → rf_G r 142 108 [.ref r, .int (nI k), .int (nI i), .int (nI o), .int (nI j), .int (nI n), .int (nI c)] [] h (some (.int 0)) (rf_cpR R B D k o i j n) := by
    intro d
    induction d with
    | zero =>
      intro c hc h H
      obtain rfl : c = n := by omega
      refine rf_G.step (pc' := 110) (st' := [_]) rfl rfl ?_
      refine rf_G.step (pc' := 112) (st' := [_, _]) rfl rfl ?_
      refine rf_G.bc rfl (jx_br_ge _ _) (fun _ => ?_) (fun z => absurd (Int32.le_refl _) z)
      refine rf_G.step (pc' := 149) (st' := [_]) rfl rfl ?_
      refine rf_G.step (pc' := 151) (ls' := [_, _, _, _, _, _, _]) (st' := []) rfl rfl ?_
      refine loop2 (rf_sA R 5 (rf_put (R.1 5) (fun c => R.1 0 (290 + 18 * k + 2 + i + c)) 0 c)) (fun c => R.1 0 (290 + 18 * k + 2 + i + c)) e2 e3 (fun e he => ?_) c 0 (by omega) h ?_
      · rw [rf_sA_at]
        unfold rf_put
        rw [if_pos (by omega)]
        rfl
      · rw [rf_put_0, rf_sA_id]
        exact H
    | succ d ih =>
      intro c hc h H
      have e0 : ∀ f x, (rf_sA R 5 f).1 0 x = R.1 0 x := fun _ _ => rfl
      refine rf_G.step (pc' := 110) (st' := [_]) rfl rfl ?_
      refine rf_G.step (pc' := 112) (st' := [_, _]) rfl rfl ?_
      refine rf_G.bc rfl (jx_br_ge _ _) (fun z => absurd z (nI_ge (by omega) (by omega))) (fun _ => ?_)
      refine rf_G.step (pc' := 116) (st' := [_]) rfl rfl ?_
      refine rf_G.get H rfl rfl ?_
      refine rf_G.step (pc' := 121) (st' := [_, _]) rfl rfl ?_
      refine rf_G.step (pc' := 122) (st' := [_, _, _]) rfl rfl ?_
      refine rf_G.get H rfl rfl ?_
      refine rf_G.step (pc' := 128) (st' := [_, _, _, _]) rfl rfl ?_
      refine rf_G.step (pc' := 130) (st' := [_, _, _, _, _]) rfl rfl ?_
      refine rf_G.step (pc' := 131) (st' := [_, _, _, _, _, _]) rfl rfl ?_
      refine rf_G.step (pc' := 132) (st' := [_, _, _, _, _]) rfl rfl ?_
      refine rf_G.step (pc' := 133) (st' := [_, _, _, _]) rfl rfl ?_
      refine rf_G.step (pc' := 134) (st' := [_, _, _, _, _]) rfl rfl ?_
      refine rf_G.step (pc' := 135) (st' := [_, _, _, _]) rfl rfl ?_
      refine rf_G.step (pc' := 136) (st' := [_, _, _, _, _]) rfl rfl ?_
      refine rf_G.step (pc' := 137) (st' := [_, _, _, _]) rfl rfl ?_
      refine rf_G.step (pc' := 139) (st' := [_, _, _, _, _]) rfl rfl ?_
      refine rf_G.step (pc' := 140) (st' := [_, _, _, _]) rfl rfl ?_
      rw [show (290 : Int32) + 18 * nI k + 2 + nI i + nI c = nI (290 + 18 * k + 2 + i + c) by rw [rf_lit 290, rf_lit 18, rf_lit 2, pk_mul, nI_add, nI_add, nI_add, nI_add]]
      refine rf_G.iald H 0 1 822 (by decide) rfl (rf_ix (by omega) (by decide)) ?_
      rw [nI_clamp (by omega), e0]
      refine rf_G.iast H 5 3 16 (by decide) rfl (rf_ix (by omega) (by decide)) (fun h H => ?_)
      rw [nI_clamp (by omega), rf_sA_sA, rf_sA_at] at H
      have H2 : rf_At r (rf_sA R 5 (rf_put (R.1 5) (fun c => R.1 0 (290 + 18 * k + 2 + i + c)) 0 (c + 1))) h := by
        rw [← rf_put_s, Nat.zero_add]
        exact H
      refine rf_G.step (pc' := 145) (ls' := [_, _, _, _, _, _, _]) (st' := []) rfl rfl ?_
      refine rf_G.step (pc' := 108) (st' := []) rfl rfl ?_
      rw [nI_1]
      exact ih (c + 1) (by omega) h H2
  intro h H
  refine rf_G.step (pc' := 106) (st' := [_]) rfl rfl ?_
  refine rf_G.step (pc' := 108) (ls' := [_, _, _, _, _, _, _]) (st' := []) rfl rfl ?_
  exact loop1 n 0 (by omega) h (by rw [rf_put_0, rf_sA_id]; exact H)
theorem rc_copy (r : Nat) (R : rf_R) (B D : Nat) (hB : B < 201) (hD : D ≤ 200) (e2 : R.2.2.1 2 = nI B) (e3 : R.2.2.1 3 = nI D) (k o l1 l2 : Nat) (hk : k < 8) (ho : o < 8) (h1 : l1 ≤ 16) (h2 : l2 ≤ 16) (el1 : rf_fl (R.1 0) k = nI l1) (el2 : rf_fl (R.1 0) o = nI l2) (i j n : Int32) : rf_C 142 r [.ref r, .int (nI k), .int i, .int (nI o), .int j, .int n] R (some (.int (rf_cpc (R.1 0) k o l1 l2 i j n))) (if rf_cpc (R.1 0) k o l1 l2 i j n = 0 then rf_cpR R B D k o i.toNatClampNeg j.toNatClampNeg n.toNatClampNeg else R) := by
  have cl1 := rc_length r R k hk
  rw [show (if R.1 0 (290 + 18 * k) = -1 then 0 else R.1 0 (290 + 18 * k + 1)) = nI l1 from el1] at cl1
  have cl2 := rc_length r R o ho
  rw [show (if R.1 0 (290 + 18 * o) = -1 then 0 else R.1 0 (290 + 18 * o + 1)) = nI l2 from el2] at cl2
  intro h H
  show rf_G r 142 0 [.ref r, .int (nI k), .int i, .int (nI o), .int j, .int n, .retAddr 0] [] h _ _
  refine rf_G.step (pc' := 1) (st' := [_]) rfl rfl ?_
  refine rf_G.step (pc' := 2) (st' := [_, _]) rfl rfl ?_
  refine rf_G.v1I H rfl (by decide) rfl ⟨Nat.le_of_ble_eq_true rfl, rfl⟩ (Nat.le_of_ble_eq_true rfl) (rc_isSheetI r R (nI k)) (fun h H => ?_)
  refine rf_G.br rfl (jx_br_eq _ _) (fun z => absurd z (fun q => (rf_o_0 _).mp q (rf_k8 hk))) (fun _ => ?_)
  refine rf_G.step (pc' := 9) (st' := [_]) rfl rfl ?_
  refine rf_G.step (pc' := 10) (st' := [_, _]) rfl rfl ?_
  refine rf_G.v1I H rfl (by decide) rfl ⟨Nat.le_of_ble_eq_true rfl, rfl⟩ (Nat.le_of_ble_eq_true rfl) (rc_isSheetI r R (nI o)) (fun h H => ?_)
  refine rf_G.brn rfl (fun _ => ?_) (fun z => absurd z (fun q => (rf_o_0 _).mp q (rf_k8 ho)))
  by_cases c3 : n < 0 ∨ i < 0 ∨ j < 0
  · rw [show rf_cpc (R.1 0) k o l1 l2 i j n = 3 from if_pos c3, if_neg (by decide)]
    refine rf_G.step (pc' := 20) (st' := [_]) rfl rfl ?_
    refine rf_G.br rfl (jx_br_lt _ _) (fun z1 => ?_) (fun z1 => ?_)
    · refine rf_G.step (pc' := 33) (st' := [_]) rfl rfl ?_
      exact rf_G.ret H rfl rfl
    refine rf_G.step (pc' := 24) (st' := [_]) rfl rfl ?_
    refine rf_G.br rfl (jx_br_lt _ _) (fun z2 => ?_) (fun z2 => ?_)
    · refine rf_G.step (pc' := 33) (st' := [_]) rfl rfl ?_
      exact rf_G.ret H rfl rfl
    refine rf_G.step (pc' := 29) (st' := [_]) rfl rfl ?_
    refine rf_G.br rfl (jx_br_ge _ _) (fun z => absurd z (Int32.not_le.mpr (by rcases c3 with q | q | q <;> first | exact q | exact absurd q z1 | exact absurd q z2))) (fun _ => ?_)
    refine rf_G.step (pc' := 33) (st' := [_]) rfl rfl ?_
    exact rf_G.ret H rfl rfl
  have z1 : ¬ n < 0 := fun q => c3 (Or.inl q)
  have z2 : ¬ i < 0 := fun q => c3 (Or.inr (Or.inl q))
  have z3 : ¬ j < 0 := fun q => c3 (Or.inr (Or.inr q))
  refine rf_G.step (pc' := 20) (st' := [_]) rfl rfl ?_
  refine rf_G.br rfl (jx_br_lt _ _) (fun z => absurd z (z1)) (fun _ => ?_)
  refine rf_G.step (pc' := 24) (st' := [_]) rfl rfl ?_
  refine rf_G.br rfl (jx_br_lt _ _) (fun z => absurd z (z2)) (fun _ => ?_)
  refine rf_G.step (pc' := 29) (st' := [_]) rfl rfl ?_
  refine rf_G.br rfl (jx_br_ge _ _) (fun _ => ?_) (fun z => absurd (Int32.not_lt.mp z3) z)
  refine rf_G.step (pc' := 35) (st' := [_]) rfl rfl ?_
  refine rf_G.step (pc' := 36) (st' := [_, _]) rfl rfl ?_
  refine rf_G.v1I H rfl (by decide) rfl ⟨Nat.le_of_ble_eq_true rfl, rfl⟩ (Nat.le_of_ble_eq_true rfl) (rc_form r R k hk) (fun h H => ?_)
  refine rf_G.step (pc' := 40) (st' := [_, _]) rfl rfl ?_
  by_cases c4 : R.1 0 (290 + 18 * k) = -1 ∨ R.1 0 (290 + 18 * o) = -1
  · rw [show rf_cpc (R.1 0) k o l1 l2 i j n = 4 from (if_neg c3).trans (if_pos c4), if_neg (by decide)]
    refine rf_G.bc rfl (jx_br_eq _ _) (fun y1 => ?_) (fun y1 => ?_)
    · refine rf_G.step (pc' := 53) (st' := [_]) rfl rfl ?_
      exact rf_G.ret H rfl rfl
    refine rf_G.step (pc' := 44) (st' := [_]) rfl rfl ?_
    refine rf_G.step (pc' := 45) (st' := [_, _]) rfl rfl ?_
    refine rf_G.v1I H rfl (by decide) rfl ⟨Nat.le_of_ble_eq_true rfl, rfl⟩ (Nat.le_of_ble_eq_true rfl) (rc_form r R o ho) (fun h H => ?_)
    refine rf_G.step (pc' := 49) (st' := [_, _]) rfl rfl ?_
    refine rf_G.bcn rfl (fun z => absurd (c4.resolve_left y1) z) (fun _ => ?_)
    refine rf_G.step (pc' := 53) (st' := [_]) rfl rfl ?_
    exact rf_G.ret H rfl rfl
  have y1 : ¬ R.1 0 (290 + 18 * k) = -1 := fun q => c4 (Or.inl q)
  have y2 : ¬ R.1 0 (290 + 18 * o) = -1 := fun q => c4 (Or.inr q)
  refine rf_G.bc rfl (jx_br_eq _ _) (fun z => absurd z (y1)) (fun _ => ?_)
  refine rf_G.step (pc' := 44) (st' := [_]) rfl rfl ?_
  refine rf_G.step (pc' := 45) (st' := [_, _]) rfl rfl ?_
  refine rf_G.v1I H rfl (by decide) rfl ⟨Nat.le_of_ble_eq_true rfl, rfl⟩ (Nat.le_of_ble_eq_true rfl) (rc_form r R o ho) (fun h H => ?_)
  refine rf_G.step (pc' := 49) (st' := [_, _]) rfl rfl ?_
  refine rf_G.bcn rfl (fun _ => ?_) (fun z => absurd z (y2))
  refine rf_G.step (pc' := 55) (st' := [_]) rfl rfl ?_
  refine rf_G.step (pc' := 56) (st' := [_]) rfl rfl ?_
  refine rf_G.step (pc' := 58) (st' := [_, _]) rfl rfl ?_
  refine rf_G.step (pc' := 59) (st' := [_, _]) rfl rfl ?_
  refine rf_G.step (pc' := 60) (st' := [_]) rfl rfl ?_
  refine rf_G.step (pc' := 61) (st' := [_, _]) rfl rfl ?_
  refine rf_G.step (pc' := 62) (st' := [_, _, _]) rfl rfl ?_
  refine rf_G.v1I H rfl (by decide) rfl ⟨Nat.le_of_ble_eq_true rfl, rfl⟩ (Nat.le_of_ble_eq_true rfl) (cl1) (fun h H => ?_)
  refine rf_G.step (pc' := 66) (st' := [_, _]) rfl rfl ?_
  refine rf_G.step (pc' := 67) (st' := [_]) rfl rfl ?_
  by_cases c5 : (l1 : Int) < i.toInt + n.toInt ∨ (l2 : Int) < j.toInt + n.toInt
  · rw [show rf_cpc (R.1 0) k o l1 l2 i j n = 5 from (if_neg c3).trans ((if_neg c4).trans (if_pos c5)), if_neg (by decide)]
    refine rf_G.br rfl (jx_br_gt _ _) (fun x1 => ?_) (fun x1 => ?_)
    · refine rf_G.step (pc' := 88) (st' := [_]) rfl rfl ?_
      exact rf_G.ret H rfl rfl
    rw [rf_gt64, rf_add64, rf_w, nI_toInt (by omega)] at x1
    refine rf_G.step (pc' := 72) (st' := [_]) rfl rfl ?_
    refine rf_G.step (pc' := 73) (st' := [_]) rfl rfl ?_
    refine rf_G.step (pc' := 75) (st' := [_, _]) rfl rfl ?_
    refine rf_G.step (pc' := 76) (st' := [_, _]) rfl rfl ?_
    refine rf_G.step (pc' := 77) (st' := [_]) rfl rfl ?_
    refine rf_G.step (pc' := 78) (st' := [_, _]) rfl rfl ?_
    refine rf_G.step (pc' := 79) (st' := [_, _, _]) rfl rfl ?_
    refine rf_G.v1I H rfl (by decide) rfl ⟨Nat.le_of_ble_eq_true rfl, rfl⟩ (Nat.le_of_ble_eq_true rfl) (cl2) (fun h H => ?_)
    refine rf_G.step (pc' := 83) (st' := [_, _]) rfl rfl ?_
    refine rf_G.step (pc' := 84) (st' := [_]) rfl rfl ?_
    refine rf_G.br rfl (jx_br_le _ _) (fun z => absurd z (fun q => Int32.not_lt.mpr q ((rf_gt64 _ _).mpr (by rw [rf_add64, rf_w, nI_toInt (by omega)]; exact c5.resolve_left x1)))) (fun _ => ?_)
    refine rf_G.step (pc' := 88) (st' := [_]) rfl rfl ?_
    exact rf_G.ret H rfl rfl
  have x1 : ¬ (l1 : Int) < i.toInt + n.toInt := fun q => c5 (Or.inl q)
  have x2 : ¬ (l2 : Int) < j.toInt + n.toInt := fun q => c5 (Or.inr q)
  refine rf_G.br rfl (jx_br_gt _ _) (fun z => absurd z (fun q => x1 (by have := (rf_gt64 _ _).mp q; rw [rf_add64, rf_w, nI_toInt (by omega)] at this; exact this))) (fun _ => ?_)
  refine rf_G.step (pc' := 72) (st' := [_]) rfl rfl ?_
  refine rf_G.step (pc' := 73) (st' := [_]) rfl rfl ?_
  refine rf_G.step (pc' := 75) (st' := [_, _]) rfl rfl ?_
  refine rf_G.step (pc' := 76) (st' := [_, _]) rfl rfl ?_
  refine rf_G.step (pc' := 77) (st' := [_]) rfl rfl ?_
  refine rf_G.step (pc' := 78) (st' := [_, _]) rfl rfl ?_
  refine rf_G.step (pc' := 79) (st' := [_, _, _]) rfl rfl ?_
  refine rf_G.v1I H rfl (by decide) rfl ⟨Nat.le_of_ble_eq_true rfl, rfl⟩ (Nat.le_of_ble_eq_true rfl) (cl2) (fun h H => ?_)
  refine rf_G.step (pc' := 83) (st' := [_, _]) rfl rfl ?_
  refine rf_G.step (pc' := 84) (st' := [_]) rfl rfl ?_
  refine rf_G.br rfl (jx_br_le _ _) (fun _ => ?_) (fun z => absurd (Int32.not_lt.mp (fun q => x2 (by have := (rf_gt64 _ _).mp q; rw [rf_add64, rf_w, nI_toInt (by omega)] at this; exact this))) z)
  refine rf_G.step (pc' := 90) (st' := [_]) rfl rfl ?_
  refine rf_G.step (pc' := 91) (st' := [_, _]) rfl rfl ?_
  refine rf_G.v1I H rfl (by decide) rfl ⟨Nat.le_of_ble_eq_true rfl, rfl⟩ (Nat.le_of_ble_eq_true rfl) (rc_form r R k hk) (fun h H => ?_)
  refine rf_G.step (pc' := 95) (st' := [_, _]) rfl rfl ?_
  refine rf_G.step (pc' := 96) (st' := [_, _, _]) rfl rfl ?_
  refine rf_G.v1I H rfl (by decide) rfl ⟨Nat.le_of_ble_eq_true rfl, rfl⟩ (Nat.le_of_ble_eq_true rfl) (rc_form r R o ho) (fun h H => ?_)
  by_cases c6 : R.1 0 (290 + 18 * k) = R.1 0 (290 + 18 * o)
  · rw [show rf_cpc (R.1 0) k o l1 l2 i j n = 0 from (if_neg c3).trans ((if_neg c4).trans ((if_neg c5).trans (if_pos c6))), if_pos rfl]
    refine rf_G.bc rfl (jx_br_eq _ _) (fun _ => ?_) (fun z => absurd (c6) z)
    obtain ⟨i, hi, rfl⟩ := rf_nn z2
    obtain ⟨j, hj, rfl⟩ := rf_nn z3
    obtain ⟨n, hn, rfl⟩ := rf_nn z1
    rw [nI_toInt hi, nI_toInt hn] at x1
    rw [nI_toInt hj, nI_toInt hn] at x2
    rw [nI_clamp hi, nI_clamp hj, nI_clamp hn]
    exact rc_copy_ok r R B D hB hD e2 e3 k o i j n hk ho (by omega) (by omega) h H
  · rw [show rf_cpc (R.1 0) k o l1 l2 i j n = 6 from (if_neg c3).trans ((if_neg c4).trans ((if_neg c5).trans (if_neg c6))), if_neg (by decide)]
    refine rf_G.bc rfl (jx_br_eq _ _) (fun z => absurd z (c6)) (fun _ => ?_)
    refine rf_G.step (pc' := 104) (st' := [_]) rfl rfl ?_
    exact rf_G.ret H rfl rfl
