/-! the works' network: cheapest -/
section
variable {A : List gA} {N : Nat} {F : Nat → Option Int} {r p P : Nat → Int}
theorem nq_pv : nq_pot (hv A) r p ↔ fl_pv A.length (pT A) (pY A) (pC A) r p := by
  constructor
  · intro h i hi hr
    exact h i (by rw [hv_len]; exact hi) hr
  · intro h i hi hr
    exact h i (by rw [hv_len] at hi; exact hi) hr
def nq_fv (A : List gA) (r : Nat → Int) (F : Nat → Option Int) : Prop := ∀ i, i < 2 * A.length → ¬ r i = 0 → ∀ x, F (pT A i) = some x → ∃ y, F (pY A i) = some y ∧ y ≤ x + pC A i
theorem nq_in {i : Nat} (hi : i < 2 * A.length) (hr : ¬ r i = 0) : (pY A i, pC A i) ∈ nq_adj (hv A) r (pT A i) := nq_mem.mpr ⟨i, by rw [hv_len]; exact hi, rfl, hr, rfl⟩
theorem nq_fv_of (wf : nq_wf (hv A) N) (po : nq_pot (hv A) r p) (hN : 0 < N) (hF : ∀ v x, F v = some x ↔ sp_D (nq_adj (hv A) r) 0 v x) : nq_fv A r F := by
  intro i hi hr x hx
  have ok := nq_ok wf po hN
  obtain ⟨⟨k, hk⟩, hm⟩ := (hF _ x).mp hx
  have hw : sp_W (nq_adj (hv A) r) 0 (k + 1) (pY A i) (x + pC A i) := ⟨_, x, _, hk, nq_in hi hr, rfl⟩
  obtain ⟨y, hy⟩ := sp_D_ex ok hw
  exact ⟨y, (hF _ y).mpr hy, hy.2 _ _ hw⟩
theorem nq_total (wf : nq_wf (hv A) N) (po : nq_pot (hv A) r p) (fv : nq_fv A r F) : ∃ P : Nat → Int, (∀ v x, F v = some x → P v = x) ∧ fl_pv A.length (pT A) (pY A) (pC A) r P ∧ ∀ v, v < N → F v = none → 2 ^ 26 ≤ P v := by
  obtain ⟨K, hK⟩ := pr_big (f := F) (p := p) (2 ^ 26) N
  have s1 : ∀ v x, F v = some x → (match F v with | some x => x | none => p v + K) = x := fun v x h => by rw [h]
  have s2 : ∀ v, F v = none → (match F v with | some x => x | none => p v + K) = p v + K := fun v h => by rw [h]
  refine ⟨fun v => match F v with | some x => x | none => p v + K, s1, fun i hi hr => ?_, fun v hv h => ?_⟩
  · have pw := nq_pv.mp po i hi hr
    have y2 : pY A i < N := (wf.2.2 i (by rw [hv_len]; exact hi)).2.1
    cases hT : F (pT A i) with
    | some x =>
      obtain ⟨y, hy, hle⟩ := fv i hi hr x hT
      dsimp only
      rw [hT, hy]
      exact hle
    | none =>
      dsimp only
      rw [hT]
      cases hYe : F (pY A i) with
      | some y =>
        have := (hK _ y2).1 y hYe
        dsimp only
        omega
      | none =>
        dsimp only
        omega
  · show 2 ^ 26 ≤ (match F v with | some x => x | none => p v + K)
    rw [s2 v h]
    have := (hK v hv).2
    omega
theorem nq_next (wf : nq_wf (hv A) N) (hP : ∀ v x, F v = some x → P v = x) (sm : ∀ v x, F v = some x → -2 ^ 24 ≤ x ∧ x ≤ 2 ^ 24) (big : ∀ v, v < N → F v = none → 2 ^ 26 ≤ P v) (pv : fl_pv A.length (pT A) (pY A) (pC A) r P) {V : Nat → Bool} (hV : ∀ v, V v = true → ∃ x, F v = some x) (cl : ∀ i, i < 2 * A.length → ¬ r i = 0 → nq_t A F i → V (pT A i) = true → V (pY A i) = true) : fl_pv A.length (pT A) (pY A) (pC A) r (fun v => if V v = true then P v else P v + 1) := by
  intro i hi hr
  have h1 := pv i hi hr
  have wi := wf.2.2 i (by rw [hv_len]; exact hi)
  have wc : pC A i ≤ 1000 := wi.2.2.2
  dsimp only
  by_cases hT : V (pT A i) = true
  · rw [if_pos hT]
    by_cases hY2 : V (pY A i) = true
    · rw [if_pos hY2]
      exact h1
    · rw [if_neg hY2]
      obtain ⟨x, hx⟩ := hV _ hT
      have sx := sm _ _ hx
      have e1 := hP _ _ hx
      cases hy : F (pY A i) with
      | none =>
        have := big _ wi.2.1 hy
        have : 2 ^ 26 ≤ P (pY A i) := this
        omega
      | some y =>
        have e2 := hP _ _ hy
        have hne : ¬ y = x + pC A i := fun q => hY2 (cl i hi hr ⟨x, hx, q ▸ hy⟩ hT)
        omega
  · rw [if_neg hT]
    split <;> omega
theorem nq_tight (wf : nq_wf (hv A) N) (po : nq_pot (hv A) r p) (hN : 0 < N) (hF : ∀ v x, F v = some x ↔ sp_D (nq_adj (hv A) r) 0 v x) {t : Int} (ht : F 1 = some t) : ¬ nq_cut A F r := by
  rintro ⟨V, v0, v1, -, cl⟩
  have ok := nq_ok wf po hN
  have key : ∀ k v x, sp_W (nq_adj (hv A) r) 0 k v x → F v = some x → V v = true := by
    intro k
    induction k with
    | zero =>
      intro v x hw _
      rw [hw.1]
      exact v0
    | succ k ih =>
      intro v x hw hvx
      obtain ⟨u, y, c, hu, hc, ex⟩ := hw
      obtain ⟨y2, hy2⟩ := sp_D_ex ok hu
      have l1 := hy2.2 _ _ hu
      have hy3 := hy2
      obtain ⟨⟨k2, hk2⟩, -⟩ := hy3
      have hw2 : sp_W (nq_adj (hv A) r) 0 (k2 + 1) v (y2 + c) := ⟨u, y2, c, hk2, hc, rfl⟩
      have l2 := ((hF v x).mp hvx).2 _ _ hw2
      obtain rfl : y2 = y := by omega
      have hFu : F u = some y2 := (hF u y2).mpr hy2
      have hVu := ih u y2 hu hFu
      obtain ⟨i, i1, i2, i3, i4⟩ := nq_mem.mp hc
      obtain ⟨rfl, rfl⟩ := Prod.mk.inj i4
      rw [hv_len] at i1
      subst ex
      have e : pT A i = u := i2
      exact cl i i1 i3 ⟨y2, by rw [e]; exact hFu, hvx⟩ (by rw [e]; exact hVu)
  obtain ⟨⟨k, hk⟩, -⟩ := (hF 1 t).mp ht
  have := key k 1 t hk ht
  rw [v1] at this
  exact absurd this (by decide)
/-- no least way is dearer than 2000: what costs leaves one node or enters another -/
theorem nq_2000 (fv : nq_fv A r F) (f0 : F 0 = some 0) (hF : ∀ v x, F v = some x → ∃ k, sp_W (nq_adj (hv A) r) 0 k v x) (hc : ∀ i, i < 2 * A.length → pC A i ≤ 0 ∨ ((pT A i = 2 ∨ pY A i = 3) ∧ pC A i ≤ 1000)) : ∀ v x, F v = some x → x ≤ 2000 := by
  have lab : ∀ k v x, sp_W (nq_adj (hv A) r) 0 k v x → ∃ y, F v = some y ∧ (y ≤ 0 ∨ ((∃ h, F 2 = some h ∧ h ≤ 0) ∧ y ≤ 1000) ∨ ((∃ h, F 2 = some h ∧ h ≤ 0) ∧ (∃ h, F 3 = some h ∧ h ≤ 2000) ∧ y ≤ 2000) ∨ ((∃ h, F 3 = some h ∧ h ≤ 1000) ∧ y ≤ 1000) ∨ ((∃ h, F 3 = some h ∧ h ≤ 1000) ∧ (∃ h, F 2 = some h ∧ h ≤ 1000) ∧ y ≤ 2000)) := by
    intro k
    induction k with
    | zero =>
      intro v x hw
      rw [hw.1]
      exact ⟨0, f0, Or.inl (Int.le_refl _)⟩
    | succ k ih =>
      intro v x hw
      obtain ⟨u, y, c, hu, hcm, ex⟩ := hw
      obtain ⟨z, hz, hI⟩ := ih u y hu
      obtain ⟨i, i1, i2, i3, i4⟩ := nq_mem.mp hcm
      rw [hv_len] at i1
      have eT : pT A i = u := i2
      have eY : pY A i = v := (Prod.mk.inj i4).1.symm
      obtain ⟨w, hw, hle⟩ := fv i i1 i3 z (by rw [eT]; exact hz)
      rw [eY] at hw
      refine ⟨w, hw, ?_⟩
      rcases hc i i1 with q | ⟨q | q, q3⟩
      · rcases hI with a | ⟨a, b⟩ | ⟨a, a2, b⟩ | ⟨a, b⟩ | ⟨a, a2, b⟩
        · exact Or.inl (by omega)
        · exact Or.inr (Or.inl ⟨a, by omega⟩)
        · exact Or.inr (Or.inr (Or.inl ⟨a, a2, by omega⟩))
        · exact Or.inr (Or.inr (Or.inr (Or.inl ⟨a, by omega⟩)))
        · exact Or.inr (Or.inr (Or.inr (Or.inr ⟨a, a2, by omega⟩)))
      · rw [eT] at q
        subst q
        rcases hI with a | ⟨⟨h, h1, h2⟩, b⟩ | ⟨⟨h, h1, h2⟩, a2, b⟩ | ⟨a, b⟩ | ⟨a, ⟨h, h1, h2⟩, b⟩
        · exact Or.inr (Or.inl ⟨⟨z, hz, a⟩, by omega⟩)
        · rw [hz] at h1
          obtain rfl := Option.some.inj h1
          exact Or.inr (Or.inl ⟨⟨z, hz, h2⟩, by omega⟩)
        · rw [hz] at h1
          obtain rfl := Option.some.inj h1
          exact Or.inr (Or.inl ⟨⟨z, hz, h2⟩, by omega⟩)
        · exact Or.inr (Or.inr (Or.inr (Or.inr ⟨a, ⟨z, hz, b⟩, by omega⟩)))
        · rw [hz] at h1
          obtain rfl := Option.some.inj h1
          exact Or.inr (Or.inr (Or.inr (Or.inr ⟨a, ⟨z, hz, h2⟩, by omega⟩)))
      · rw [eY] at q
        subst q
        rcases hI with a | ⟨a, b⟩ | ⟨a, ⟨h, h1, h2⟩, b⟩ | ⟨⟨h, h1, h2⟩, b⟩ | ⟨⟨h, h1, h2⟩, a2, b⟩
        · exact Or.inr (Or.inr (Or.inr (Or.inl ⟨⟨w, hw, by omega⟩, by omega⟩)))
        · exact Or.inr (Or.inr (Or.inl ⟨a, ⟨w, hw, by omega⟩, by omega⟩))
        · rw [hw] at h1
          obtain rfl := Option.some.inj h1
          exact Or.inr (Or.inr (Or.inl ⟨a, ⟨w, hw, h2⟩, h2⟩))
        · rw [hw] at h1
          obtain rfl := Option.some.inj h1
          exact Or.inr (Or.inr (Or.inr (Or.inl ⟨⟨w, hw, h2⟩, h2⟩)))
        · rw [hw] at h1
          obtain rfl := Option.some.inj h1
          exact Or.inr (Or.inr (Or.inr (Or.inr ⟨⟨w, hw, h2⟩, a2, by omega⟩)))
  intro v x hx
  obtain ⟨k, hk⟩ := hF v x hx
  obtain ⟨y, hy, h⟩ := lab k v x hk
  rw [hx] at hy
  obtain rfl := Option.some.inj hy
  rcases h with a | ⟨a, b⟩ | ⟨a, a2, b⟩ | ⟨a, b⟩ | ⟨a, a2, b⟩ <;> omega
end
/-- a network that may be asked: so much flow at most -/
def nq_net (A : List gA) (N : Nat) (tot : Int) : Prop := nq_wf (hv A) N ∧ A.length ≤ 5943 ∧ 4 ≤ N ∧ fl_pair A.length (pT A) (pY A) (pC A) ∧ (∀ e, e < A.length → 0 ≤ pcap A e ∧ pcap A e ≤ 2 ^ 28 ∧ 0 ≤ pC A (2 * e)) ∧ (∀ i, i < 2 * A.length → pC A i ≤ 0 ∨ ((pT A i = 2 ∨ pY A i = 3) ∧ pC A i ≤ 1000)) ∧ (0 ≤ tot ∧ tot ≤ 2 ^ 28) ∧ ∀ r D, fl_ok A.length (pcap A) r → fl_div A.length (pT A) (pY A) r 0 1 D → D ≤ tot
/-- what cheapest finds -/
def nq_out (A : List gA) (tot : Int) (v : Int64) : Prop := ∃ r D, fl_ok A.length (pcap A) r ∧ fl_div A.length (pT A) (pY A) r 0 1 D ∧ ((D = tot ∧ v = Int64.ofInt (fl_cost A.length (pC A) r) ∧ ∃ P, fl_pv A.length (pT A) (pY A) (pC A) r P) ∨ (D < tot ∧ v = -1 ∧ ∃ V : Nat → Bool, V 0 = true ∧ V 1 = false ∧ ∀ i, i < 2 * A.length → ¬ r i = 0 → V (pT A i) = true → V (pY A i) = true))
theorem kp_f.Hk {W W2 : cw} (a : kp_f W W2) {H : List hA} {N : Nat} (K : nt_H W H N) : nt_H W2 H N := a.H K
theorem I64_32 (v : Int32) : v.toInt64 = Int64.ofInt v.toInt := by
  apply Int64.toInt_inj.mp
  have h1 := Int32.le_toInt v
  have h2 := Int32.toInt_lt v
  rw [rf_w, Int64.toInt_ofInt, show Int64.size = 2 ^ 64 from rfl]
  exact (Int.bmod_eq_of_le (by omega) (by omega)).symm
section
variable {g : Nat → Option jx_E} {nx s : Nat} {A : List gA} {N : Nat} {tot : Int}
theorem kc_cheapest (W : cw) (net : nq_net A N tot) (K : nt_H W (hv A) N) (R : nt_R W (2 * A.length) (pr (hv_r A))) (w : Int32) (hw : w.toInt = tot) : ∃ W2 v, jx_T 39 0 (jx_ent 39 [.ref 22, .int 0, .int 1, .int w]) [] (hc W g nx s) (some (.long v)) (hc W2 g nx s) ∧ kn_f W W2 ∧ nq_out A tot v := by
  obtain ⟨wf, hA, hN4, hp, hcap, hcost, ht0, hDm⟩ := net
  have hN2 := wf.2.1
  -- the end
  have fin : ∀ (W1 : cw) (sum : Int64) (left pu : Int32) (n : Value), jx_T 39 86 [.ref 22, .int 0, .int 1, .int w, .long sum, .retAddr 0, .int left, .int pu, n] [] (hc W1 g nx s) (some (.long (if 0 < left.toInt then -1 else sum))) (hc W1 g nx s) := by
    intro W1 sum left pu n
    refine jx_T.step (pc' := 88) (st' := [_]) rfl rfl ?_
    by_cases z : 0 < left.toInt
    · rw [if_pos z]
      refine cl.br rfl (jx_br_le _ _) (fun zq => absurd zq (fun y => by have := Int32.le_iff_toInt_le.mp y; rw [show (0 : Int32).toInt = 0 from by decide] at this; omega)) (fun _ => ?_)
      refine jx_T.step (pc' := 94) (st' := [_]) rfl rfl ?_
      refine jx_T.step (pc' := 99) (st' := [_]) rfl rfl ?_
      exact jx_T.ret rfl rfl
    · rw [if_neg z]
      refine cl.br rfl (jx_br_le _ _) (fun _ => ?_) (fun zq => absurd (Int32.le_iff_toInt_le.mpr (by rw [show (0 : Int32).toInt = 0 from by decide]; omega)) zq)
      refine jx_T.step (pc' := 99) (st' := [_]) rfl rfl ?_
      exact jx_T.ret rfl rfl
  have loop : ∀ (d n : Nat) (W1 : cw) (r p : Nat → Int) (D b : Int) (left pu : Int32), n + d = 1000000 → kn_f W W1 → nt_H W1 (hv A) N → nt_R W1 (2 * A.length) r → fl_ok A.length (pcap A) r → fl_div A.length (pT A) (pY A) r 0 1 D → fl_pv A.length (pT A) (pY A) (pC A) r p → 0 ≤ D → left.toInt = tot - D → (0 ≤ b ∧ b ≤ 2001 ∧ b ≤ p 1 - p 0 ∧ (n : Int) * 1000000 ≤ b * 1000000 + D) → (0 < left.toInt → 0 < pu.toInt) → ∃ W2 v, jx_T 39 12 [.ref 22, .int 0, .int 1, .int w, .long (Int64.ofInt (fl_cost A.length (pC A) r)), .retAddr 0, .int left, .int pu, .int (nI n)] [] (hc W1 g nx s) (some (.long v)) (hc W2 g nx s) ∧ kn_f W W2 ∧ nq_out A tot v := by
    intro d
    induction d with
    | zero =>
      intro n W1 r p D b left pu hn kf K1 R1 ok dv pv hD hl hb hpu
      exfalso
      have := hDm r D ok dv
      omega
    | succ d ih =>
      intro n W1 r p D b left pu hn kf K1 R1 ok dv pv hD hl hb hpu
      have hDt := hDm r D ok dv
      by_cases hleft : 0 < left.toInt
      · have hp0 := hpu hleft
        have po := nq_pv.mpr pv
        have hr0 : ∀ i, i < (hv A).length → 0 ≤ r i := fun i hi => by
          rw [hv_len] at hi
          obtain ⟨e, he, h⟩ := pr_half hi
          have := ok e he
          rcases h with h | h <;> rw [h] <;> omega
        obtain ⟨W2, F, t2, k2, l2, hF⟩ := kc_findPrices (g := g) (nx := nx) (s := s) W1 wf po hr0 K1 (by rw [hv_len]; exact R1) 0 (by omega)
        have fv := nq_fv_of wf po (by omega) hF
        have okk := nq_ok wf po (s := 0) (by omega)
        have f0 : F 0 = some 0 := (hF 0 0).mpr ⟨⟨0, rfl, rfl⟩, fun k y hk => by have := (sp_W_lt okk k 0 y hk).2; omega⟩
        have hFw : ∀ v x, F v = some x → ∃ k, sp_W (nq_adj (hv A) r) 0 k v x := fun v x h => ((hF v x).mp h).1
        have h2000 := nq_2000 fv f0 hFw hcost
        have sm : ∀ v x, F v = some x → -2 ^ 24 ≤ x ∧ x ≤ 2 ^ 24 := by
          intro v x hx
          have u := h2000 v x hx
          obtain ⟨k, hk⟩ := hFw v x hx
          have h2 := sp_low okk (C := 1000) (fun a b c h => by
            obtain ⟨i, g1, g2, g3, g4⟩ := nq_mem.mp h
            obtain ⟨rfl, rfl⟩ := Prod.mk.inj g4
            exact (wf.2.2 i g1).2.2.1) hk
          have h8 : ((N * 1000 : Nat) : Int) ≤ 1324000 := by omega
          omega
        have K2 := k2.H K1
        have R2 := k2.R R1
        have hhead : ∀ {v : Option Value} {h2 : jx_H}, jx_T 39 42 [.ref 22, .int 0, .int 1, .int w, .long (Int64.ofInt (fl_cost A.length (pC A) r)), .retAddr 0, .int left, .int pu, .int (nI n)] [.int 2147483647, .int (np_rep (F 1))] (hc W2 g nx s) v h2 → jx_T 39 12 [.ref 22, .int 0, .int 1, .int w, .long (Int64.ofInt (fl_cost A.length (pC A) r)), .retAddr 0, .int left, .int pu, .int (nI n)] [] (hc W1 g nx s) v h2 := by
          intro v h2 t
          have l21 := l2 1 (by omega)
          refine jx_T.step (pc' := 14) (st' := [_]) rfl rfl ?_
          refine jx_T.step (pc' := 16) (st' := [_, _]) rfl rfl ?_
          rw [rf_lit 1000000]
          refine cl.bc rfl (jx_br_ge _ _) (fun zq => absurd zq (nI_ge (by omega) (by omega))) (fun _ => ?_)
          refine jx_T.step (pc' := 21) (st' := [_]) rfl rfl ?_
          refine cl.br rfl (jx_br_le _ _) (fun zq => absurd zq (fun y => by have := Int32.le_iff_toInt_le.mp y; rw [show (0 : Int32).toInt = 0 from by decide] at this; omega)) (fun _ => ?_)
          refine jx_T.step (pc' := 26) (st' := [_]) rfl rfl ?_
          refine cl.br rfl (jx_br_le _ _) (fun zq => absurd zq (fun y => by have := Int32.le_iff_toInt_le.mp y; rw [show (0 : Int32).toInt = 0 from by decide] at this; omega)) (fun _ => ?_)
          refine jx_T.step (pc' := 30) (st' := [_]) rfl rfl ?_
          refine jx_T.step (pc' := 31) (st' := [_, _]) rfl rfl ?_
          refine cl.v1V (hc_fix 22 (by decide) (cw_c22 _)) rfl (by decide) rfl ⟨Nat.le_of_ble_eq_true rfl, rfl⟩ (Nat.le_of_ble_eq_true rfl) (t2) ?_
          refine jx_T.step (pc' := 35) (st' := [_]) rfl rfl ?_
          refine cl.get 22 (by decide) rfl (cw_c22 _) rfl ?_
          refine jx_T.step (pc' := 39) (st' := [_, _]) rfl rfl ?_
          refine cl.iald 28 (by decide) rfl (cw_c28 _) (rf_ix (n := 1) (by decide) (by decide)) ?_
          rw [show ((1 : Int32)).toNatClampNeg = 1 from rfl, l21]
          refine jx_T.step (pc' := 42) (st' := [_, _]) rfl rfl ?_
          exact t
        cases ht : F 1 with
        | none =>
          rw [ht] at hhead
          refine ⟨W2, -1, ?_, kf.tr k2.N, r, D, ok, dv, Or.inr ⟨by omega, rfl, (fun v => (F v).isSome), by show (F 0).isSome = true; rw [f0]; rfl, by show (F 1).isSome = false; rw [ht]; rfl, fun i hi hr hV => ?_⟩⟩
          · refine hhead ?_
            refine cl.bcn rfl (fun y => absurd rfl y) (fun _ => ?_)
            have f9 := fin W2 (Int64.ofInt (fl_cost A.length (pC A) r) + (0 : Int32).toInt64 * (np_rep none).toInt64) (left - 0) 0 (.int (nI (n + 1)))
            have el : (left - 0).toInt = left.toInt := by rw [Int32.sub_zero]
            rw [el, if_pos hleft] at f9
            have l21 := l2 1 (by omega)
            rw [ht] at l21
            refine jx_T.step (pc' := 46) (st' := [_]) rfl rfl ?_
            refine jx_T.step (pc' := 55) (st' := [_]) rfl rfl ?_
            refine jx_T.step (pc' := 57) (ls' := [_, _, _, _, _, _, _, _, _]) (st' := []) rfl rfl ?_
            refine jx_T.step (pc' := 59) (st' := [_]) rfl rfl ?_
            refine jx_T.step (pc' := 61) (st' := [_, _]) rfl rfl ?_
            refine jx_T.step (pc' := 62) (st' := [_, _]) rfl rfl ?_
            refine jx_T.step (pc' := 63) (st' := [_, _, _]) rfl rfl ?_
            refine cl.get 22 (by decide) rfl (cw_c22 _) rfl ?_
            refine jx_T.step (pc' := 67) (st' := [_, _, _, _]) rfl rfl ?_
            refine cl.iald 28 (by decide) rfl (cw_c28 _) (rf_ix (n := 1) (by decide) (by decide)) ?_
            rw [show ((1 : Int32)).toNatClampNeg = 1 from rfl, l21]
            refine jx_T.step (pc' := 69) (st' := [_, _, _]) rfl rfl ?_
            refine jx_T.step (pc' := 70) (st' := [_, _]) rfl rfl ?_
            refine jx_T.step (pc' := 71) (st' := [_]) rfl rfl ?_
            refine jx_T.step (pc' := 73) (ls' := [_, _, _, _, _, _, _, _, _]) (st' := []) rfl rfl ?_
            refine jx_T.step (pc' := 75) (st' := [_]) rfl rfl ?_
            refine jx_T.step (pc' := 77) (st' := [_, _]) rfl rfl ?_
            refine jx_T.step (pc' := 78) (st' := [_]) rfl rfl ?_
            refine jx_T.step (pc' := 80) (ls' := [_, _, _, _, _, _, _, _, _]) (st' := []) rfl rfl ?_
            refine jx_T.step (pc' := 83) (ls' := [_, _, _, _, _, _, _, _, _]) (st' := []) rfl rfl ?_
            refine jx_T.step (pc' := 12) (st' := []) rfl rfl ?_
            rw [nI_1]
            refine jx_T.step (pc' := 14) (st' := [_]) rfl rfl ?_
            refine jx_T.step (pc' := 16) (st' := [_, _]) rfl rfl ?_
            rw [rf_lit 1000000]
            by_cases z : 1000000 ≤ n + 1
            · refine cl.bc rfl (jx_br_ge _ _) (fun _ => ?_) (fun zq => absurd (nI_le z (by omega)) zq)
              exact f9
            · refine cl.bc rfl (jx_br_ge _ _) (fun zq => absurd zq (nI_ge (by omega) (by omega))) (fun _ => ?_)
              refine jx_T.step (pc' := 21) (st' := [_]) rfl rfl ?_
              refine cl.br rfl (jx_br_le _ _) (fun zq => absurd zq (fun y => by have := Int32.le_iff_toInt_le.mp y; rw [el, show (0 : Int32).toInt = 0 from by decide] at this; omega)) (fun _ => ?_)
              refine jx_T.step (pc' := 26) (st' := [_]) rfl rfl ?_
              refine cl.br rfl (jx_br_le _ _) (fun _ => ?_) (fun zq => absurd (by decide) zq)
              exact f9
          · obtain ⟨x, hx⟩ := Option.isSome_iff_exists.mp hV
            obtain ⟨y, hy, -⟩ := fv i hi hr x hx
            show (F (pY A i)).isSome = true
            rw [hy]
            rfl
        | some t =>
          rw [ht] at hhead
          have t1 := h2000 1 t ht
          have tb : b ≤ t := by
            obtain ⟨k, hk⟩ := hFw 1 t ht
            have := (sp_W_lt okk k 1 t hk).2
            omega
          obtain ⟨P, hPF, pvP, big⟩ := nq_total wf po fv
          have P1 : P 1 = t := hPF 1 t ht
          have P0 : P 0 = 0 := hPF 0 0 f0
          have fl : nq_FL A P r D (fl_cost A.length (pC A) r) := ⟨ok, dv, rfl, pvP⟩
          have E : nq_env W2 A N F := ⟨wf, hA, K2, l2, sm, f0, by omega⟩
          have E2 : nq_env2 A F P := ⟨hp, fun e he => (hcap e he).2.1, hPF, fun r D c f => by have := hDm r D f.1 f.2.1; omega⟩
          obtain ⟨W3, r3, D3, v3, t3, ⟨k3, R3⟩, ⟨ok3, dv3, co3, pv3⟩, hv3, hD3, hc3, hx3⟩ := kc_pushAll (g := g) (nx := nx) (s := s) W2 E E2 R2 fl hD
          have hgt : D < D3 := by
            have hne : ¬ D3 = D := fun q => nq_tight wf po (by omega) hF ht (hc3 q)
            omega
          have hD3t := hDm r3 D3 ok3 dv3
          have kf3 := (kf.tr k2.N).tr k3.N
          have st := sm 1 t ht
          have esum : Int64.ofInt (fl_cost A.length (pC A) r) + v3.toInt64 * (np_rep (some t)).toInt64 = Int64.ofInt (fl_cost A.length (pC A) r3) := by
            rw [I64_32, I64_32, np_some (by omega), hv3, ← Int64.ofInt_mul, ← Int64.ofInt_add, co3, P1, P0, Int.sub_zero]
          have hl3 : (left - v3).toInt = tot - D3 := by
            rw [Int32.toInt_sub, hl, hv3, show tot - D - (D3 - D) = tot - D3 by omega]
            exact Int.bmod_eq_of_le (by omega) (by omega)
          obtain ⟨p4, b4, pv4, hb4⟩ : ∃ p4 b4, fl_pv A.length (pT A) (pY A) (pC A) r3 p4 ∧ (0 ≤ b4 ∧ b4 ≤ 2001 ∧ b4 ≤ p4 1 - p4 0 ∧ ((n + 1 : Nat) : Int) * 1000000 ≤ b4 * 1000000 + D3) := by
            rcases hx3 with ⟨V, V0, V1, VL, Vc⟩ | hbig
            · refine ⟨_, t + 1, nq_next wf hPF sm big pv3 VL Vc, by omega, by omega, ?_, by omega⟩
              rw [V0, V1, if_pos rfl, if_neg (by decide)]
              omega
            · exact ⟨P, t, pv3, by omega, by omega, by omega, by omega⟩
          obtain ⟨W4, v4, t4, x4⟩ := ih (n + 1) W3 r3 p4 D3 b4 (left - v3) v3 (by omega) kf3 (k3.H K2) R3 ok3 dv3 pv4 (by omega) hl3 hb4 (fun _ => by omega)
          refine ⟨W4, v4, hhead ?_, x4⟩
          refine cl.bcn rfl (fun _ => ?_) (fun y => absurd ((np_inj (by omega) (o := none) (fun z hz => absurd hz (by simp))).mp y) (by simp))
          have l31 : W3.1 28 1 = np_rep (some t) := by rw [k3.1 28 (by decide) (by decide) (by decide) (by decide), l2 1 (by omega), ht]
          refine jx_T.step (pc' := 50) (st' := [_]) rfl rfl ?_
          refine jx_T.step (pc' := 51) (st' := [_, _]) rfl rfl ?_
          refine jx_T.step (pc' := 52) (st' := [_, _, _]) rfl rfl ?_
          refine cl.v2I (hc_fix 22 (by decide) (cw_c22 _)) rfl (by decide) rfl ⟨Nat.le_of_ble_eq_true rfl, rfl⟩ (Nat.le_of_ble_eq_true rfl) (t3) ?_
          refine jx_T.step (pc' := 57) (ls' := [_, _, _, _, _, _, _, _, _]) (st' := []) rfl rfl ?_
          refine jx_T.step (pc' := 59) (st' := [_]) rfl rfl ?_
          refine jx_T.step (pc' := 61) (st' := [_, _]) rfl rfl ?_
          refine jx_T.step (pc' := 62) (st' := [_, _]) rfl rfl ?_
          refine jx_T.step (pc' := 63) (st' := [_, _, _]) rfl rfl ?_
          refine cl.get 22 (by decide) rfl (cw_c22 _) rfl ?_
          refine jx_T.step (pc' := 67) (st' := [_, _, _, _]) rfl rfl ?_
          refine cl.iald 28 (by decide) rfl (cw_c28 _) (rf_ix (n := 1) (by decide) (by decide)) ?_
          rw [show ((1 : Int32)).toNatClampNeg = 1 from rfl, l31]
          refine jx_T.step (pc' := 69) (st' := [_, _, _]) rfl rfl ?_
          refine jx_T.step (pc' := 70) (st' := [_, _]) rfl rfl ?_
          refine jx_T.step (pc' := 71) (st' := [_]) rfl rfl ?_
          rw [esum]
          refine jx_T.step (pc' := 73) (ls' := [_, _, _, _, _, _, _, _, _]) (st' := []) rfl rfl ?_
          refine jx_T.step (pc' := 75) (st' := [_]) rfl rfl ?_
          refine jx_T.step (pc' := 77) (st' := [_, _]) rfl rfl ?_
          refine jx_T.step (pc' := 78) (st' := [_]) rfl rfl ?_
          refine jx_T.step (pc' := 80) (ls' := [_, _, _, _, _, _, _, _, _]) (st' := []) rfl rfl ?_
          refine jx_T.step (pc' := 83) (ls' := [_, _, _, _, _, _, _, _, _]) (st' := []) rfl rfl ?_
          refine jx_T.step (pc' := 12) (st' := []) rfl rfl ?_
          rw [nI_1]
          exact t4
      · refine ⟨W1, Int64.ofInt (fl_cost A.length (pC A) r), ?_, kf, r, D, ok, dv, Or.inl ⟨by omega, rfl, p, pv⟩⟩
        have f9 := fin W1 (Int64.ofInt (fl_cost A.length (pC A) r)) left pu (.int (nI n))
        rw [if_neg hleft] at f9
        refine jx_T.step (pc' := 14) (st' := [_]) rfl rfl ?_
        refine jx_T.step (pc' := 16) (st' := [_, _]) rfl rfl ?_
        rw [rf_lit 1000000]
        refine cl.bc rfl (jx_br_ge _ _) (fun zq => absurd zq (nI_ge (by omega) (by omega))) (fun _ => ?_)
        refine jx_T.step (pc' := 21) (st' := [_]) rfl rfl ?_
        refine cl.br rfl (jx_br_le _ _) (fun _ => ?_) (fun zq => absurd (Int32.le_iff_toInt_le.mpr (by rw [show (0 : Int32).toInt = 0 from by decide]; omega)) zq)
        exact f9
  have r0 : ∀ e, e < A.length → pr (hv_r A) (2 * e) = pcap A e ∧ pr (hv_r A) (2 * e + 1) = 0 := by
    intro e he
    unfold pr hv_r pcap
    rw [if_pos (by omega), if_neg (by omega), show 2 * e / 2 = e by omega]
    exact ⟨rfl, rfl⟩
  have ok0 : fl_ok A.length (pcap A) (pr (hv_r A)) := fun e he => by
    rw [(r0 e he).1, (r0 e he).2]
    have := (hcap e he).1
    omega
  have wt0 : ∀ u, fl_wt A.length u (pr (hv_r A)) = 0 := by
    intro u
    unfold fl_wt
    have : ∀ m, m ≤ A.length → fl_sum (fun e => pr (hv_r A) (2 * e + 1) * u e) m = 0 := by
      intro m
      induction m with
      | zero => intro _; rfl
      | succ m ih =>
        intro hm
        show fl_sum (fun e => pr (hv_r A) (2 * e + 1) * u e) m + pr (hv_r A) (2 * m + 1) * u m = 0
        rw [ih (by omega), (r0 m (by omega)).2, Int.zero_mul]
        rfl
    exact this _ (Nat.le_refl _)
  have dv0 : fl_div A.length (pT A) (pY A) (pr (hv_r A)) 0 1 0 := fun p => by rw [wt0, Int.zero_mul]
  have c0 : fl_cost A.length (pC A) (pr (hv_r A)) = 0 := wt0 _
  have pv0 : fl_pv A.length (pT A) (pY A) (pC A) (pr (hv_r A)) (fun _ => 0) := by
    intro i hi hr
    obtain ⟨e, he, h⟩ := pr_half hi
    rcases h with h | h
    · rw [h]
      have := (hcap e he).2.2
      show (0 : Int) ≤ 0 + _
      omega
    · rw [h, (r0 e he).2] at hr
      exact absurd rfl hr
  obtain ⟨W2, v, t, x⟩ := loop 1000000 0 W (pr (hv_r A)) (fun _ => 0) 0 0 w w (by omega) kn_f.rf K R ok0 dv0 pv0 (by omega) (by omega) ⟨by omega, by omega, by omega, by omega⟩ (fun h => h)
  rw [c0] at t
  refine ⟨W2, v, ?_, x⟩
  show jx_T 39 0 [.ref 22, .int 0, .int 1, .int w, .retAddr 0, .retAddr 0, .retAddr 0, .retAddr 0, .retAddr 0] [] _ _ _
  refine jx_T.step (pc' := 1) (st' := [_]) rfl rfl ?_
  refine jx_T.step (pc' := 3) (ls' := [_, _, _, _, _, _, _, _, _]) (st' := []) rfl rfl ?_
  refine jx_T.step (pc' := 4) (st' := [_]) rfl rfl ?_
  refine jx_T.step (pc' := 6) (ls' := [_, _, _, _, _, _, _, _, _]) (st' := []) rfl rfl ?_
  refine jx_T.step (pc' := 7) (st' := [_]) rfl rfl ?_
  refine jx_T.step (pc' := 9) (ls' := [_, _, _, _, _, _, _, _, _]) (st' := []) rfl rfl ?_
  refine jx_T.step (pc' := 10) (st' := [_]) rfl rfl ?_
  refine jx_T.step (pc' := 12) (ls' := [_, _, _, _, _, _, _, _, _]) (st' := []) rfl rfl ?_
  exact t
end
