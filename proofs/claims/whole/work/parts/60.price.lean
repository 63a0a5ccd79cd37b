/-! the reference: price -/
theorem pr_big {f : Nat → Option Int} {p : Nat → Int} (L : Int) : ∀ n, ∃ K : Int, ∀ v, v < n → (∀ x, f v = some x → x - p v ≤ K) ∧ L - p v ≤ K
  | 0 => ⟨0, fun v hv => absurd hv (by omega)⟩
  | n + 1 => by
    obtain ⟨K, hK⟩ := pr_big (f := f) (p := p) L n
    obtain ⟨y, hy⟩ : ∃ y : Int, ∀ x, f n = some x → x - p n ≤ y := by
      cases h : f n with
      | none => exact ⟨0, fun x hx => absurd hx (by simp)⟩
      | some z => exact ⟨z - p n, fun x hx => by rw [Option.some.inj hx]; exact Int.le_refl _⟩
    refine ⟨max K (max y (L - p n)), fun v hv => ?_⟩
    by_cases e : v = n
    · subst e
      exact ⟨fun x hx => by have := hy x hx; omega, by omega⟩
    · have g := hK v (by omega)
      exact ⟨fun x hx => by have := g.1 x hx; omega, by have := g.2; omega⟩
theorem pr_total {A : List gA} (wf : pr_wf A) {ρ : Nat → Int64} {p : Nat → Int} (po : sp_pot (hv A) ρ p) {F : Nat → Option Int} (fv : pr_fv A ρ F) (L : Int) : ∃ P : Nat → Int, (∀ v x, F v = some x → P v = x) ∧ fl_pv A.length (pT A) (pY A) (pC A) (pr ρ) P ∧ ∀ v, v < 2882 → F v = none → L ≤ P v := by
  obtain ⟨K, hK⟩ := pr_big (f := F) (p := p) L 2882
  have s1 : ∀ v x, F v = some x → (match F v with | some x => x | none => p v + K) = x := fun v x h => by rw [h]
  have s2 : ∀ v, F v = none → (match F v with | some x => x | none => p v + K) = p v + K := fun v h => by rw [h]
  refine ⟨fun v => match F v with | some x => x | none => p v + K, s1, fun i hi hr => ?_, fun v hv h => ?_⟩
  · have pw := pr_pot.mp po i hi hr
    have wn := (pr_sp wf).2 i (by rw [hv_len]; exact hi)
    have y2 : pY A i < 2882 := wn.2.1
    cases hT : F (pT A i) with
    | some x =>
      obtain ⟨y, hy, hle⟩ := fv i hi hr x hT
      dsimp only
      rw [hT, hy]
      exact hle
    | none =>
      dsimp only
      rw [hT]
      cases hYe : F (pY A i) with
      | some y =>
        have := (hK _ y2).1 y hYe
        dsimp only
        omega
      | none =>
        dsimp only
        omega
  · show L ≤ (match F v with | some x => x | none => p v + K)
    rw [s2 v h]
    have := (hK v hv).2
    omega
theorem pr_next {A : List gA} {ρ : Nat → Int64} {F : Nat → Option Int} {P : Nat → Int} (hP : ∀ v x, F v = some x → P v = x) (pv : fl_pv A.length (pT A) (pY A) (pC A) (pr ρ) P) (fv : pr_fv A ρ F) {V : List Nat} (hV : ∀ v, v ∈ V → v < 2882 ∧ ∃ x, F v = some x) (cl : ∀ i, fd_ok F (hv A) ρ i → ((hv A).getD i hd).1 ∈ V → ((hv A).getD i hd).2.1 ∈ V) : fl_pv A.length (pT A) (pY A) (pC A) (pr ρ) (fun v => if v ∈ V then P v else P v + 1) := by
  intro i hi hr
  have h1 := pv i hi hr
  dsimp only
  by_cases hT : pT A i ∈ V
  · rw [if_pos hT]
    by_cases hY2 : pY A i ∈ V
    · rw [if_pos hY2]
      exact h1
    · rw [if_neg hY2]
      obtain ⟨x, hx⟩ := (hV _ hT).2
      obtain ⟨y, hy, hle⟩ := fv i hi hr x hx
      have hne : ¬ y = x + pC A i := fun q => hY2 (cl i ⟨by rw [hv_len]; exact hi, fun z => hr (pr_z.mpr z), x, hx, q ▸ hy⟩ hT)
      rw [hP _ _ hx, hP _ _ hy]
      omega
  · rw [if_neg hT]
    split <;> omega
theorem sp_W_le {adj : sp_A} {s C : Nat} (hc : ∀ a b c, (b, c) ∈ adj a → c ≤ (C : Int)) : ∀ k v x, sp_W adj s k v x → x ≤ ((k * C : Nat) : Int)
  | 0, v, x, h => by
    obtain ⟨-, rfl⟩ := h
    simp
  | k + 1, v, x, h => by
    obtain ⟨u, y, c, h1, h2, rfl⟩ := h
    have g1 := sp_W_le hc k u y h1
    have g2 := hc u v c h2
    rw [Nat.succ_mul]
    omega
theorem pr_sm {A : List gA} (wf : pr_wf A) {ρ : Nat → Int64} {p : Nat → Int} (po : sp_pot (hv A) ρ p) {F : Nat → Option Int} (hF : ∀ v x, F v = some x ↔ sp_D (sp_adj (hv A) ρ) 2880 v x) : (∀ v x, F v = some x → -2 ^ 45 ≤ x ∧ x ≤ 2 ^ 45) ∧ F 2880 = some 0 := by
  have ok := sp_adj_ok (pr_sp wf) po (s := 2880) (by decide)
  have hc : ∀ a b c, (b, c) ∈ sp_adj (hv A) ρ a → -((1000000 : Nat) : Int) ≤ c ∧ c ≤ ((1000000 : Nat) : Int) := by
    intro a b c h
    obtain ⟨i, g1, g2, g3, g4⟩ := sp_adj_mem.mp h
    obtain ⟨rfl, rfl⟩ := Prod.mk.inj g4
    exact ((pr_sp wf).2 i g1).2.2
  constructor
  · intro v x hx
    have hd := (hF v x).mp hx
    obtain ⟨k, hk, hw⟩ := sp_short ok hd
    have h1 := sp_W_le (fun a b c h => (hc a b c h).2) k v x hw
    have h2 := sp_low ok (fun a b c h => (hc a b c h).1) hw
    have h3 : k * 1000000 ≤ 2882 * 1000000 := Nat.mul_le_mul_right _ (by omega)
    omega
  · refine (hF 2880 0).mpr ⟨⟨0, rfl, rfl⟩, fun k y hy => ?_⟩
    have := (sp_W_lt ok k 2880 y hy).2
    omega
def pr_S (A : List gA) : Int := fl_sum (pcap A) A.length
theorem pr_D {A : List gA} {ρ : Nat → Int64} {D : Int} {c : Int64} (ok : pr_ok A ρ D c) : D ≤ pr_S A := by
  obtain ⟨o1, o2, -⟩ := ok
  have h := o2 (fun v => if v = 2881 then 1 else 0)
  simp only [if_pos, show ¬ (2880 : Nat) = 2881 by decide, if_neg, not_false_eq_true] at h
  have h2 : fl_wt A.length (fun e => (if pY A (2 * e) = 2881 then (1 : Int) else 0) - (if pT A (2 * e) = 2881 then 1 else 0)) (pr ρ) ≤ pr_S A := by
    refine fl_sum_le _ (fun e he => ?_)
    obtain ⟨a1, a2, a3⟩ := o1 e he
    have b1 : (if pY A (2 * e) = 2881 then (1 : Int) else 0) - (if pT A (2 * e) = 2881 then 1 else 0) ≤ 1 := by
      split <;> split <;> omega
    have b2 := Int.mul_le_mul_of_nonneg_left b1 a2
    rw [Int.mul_one] at b2
    dsimp only
    omega
  rw [h] at h2
  omega
def pr_fin (A : List gA) (ρ : Nat → Int64) (c : Int64) : Prop := ∃ D P, pr_ok A ρ D c ∧ fl_pv A.length (pT A) (pY A) (pC A) (pr ρ) P ∧ P 2880 = P 2881
theorem pr_done {A : List gA} (wf : pr_wf A) {ρ : Nat → Int64} {D : Int} {c : Int64} (ok : pr_ok A ρ D c) {p : Nat → Int} (po : sp_pot (hv A) ρ p) (p0 : p 2880 = 0) (p1 : p 2881 < 0) {F : Nat → Option Int} (hF : ∀ v x, F v = some x ↔ sp_D (sp_adj (hv A) ρ) 2880 v x) (ht : ∀ t, F 2881 = some t → 0 ≤ t) : pr_fin A ρ c := by
  obtain ⟨P, h1, h2, h3⟩ := pr_total wf po (pr_fv_of wf po hF) 0
  have q := pr_pot.mp po
  have e0 : P 2880 = 0 := h1 _ _ (pr_sm wf po hF).2
  have e1 : 0 ≤ P 2881 := by
    cases h : F 2881 with
    | none => exact h3 2881 (by decide) h
    | some t => rw [h1 _ _ h]; exact ht t h
  refine ⟨D, fun v => min (P v) (p v - p 2881), ok, fun i hi hr => ?_, ?_⟩
  · have g1 := h2 i hi hr
    have g2 := q i hi hr
    dsimp only
    omega
  · dsimp only
    omega
/-- from the loop's head on -/
def pr_X (r : Nat) (R0 : rf_R) (A : List gA) (must : Int64) (pc : Nat) (ls : List Value) (R1 : rf_R) : Prop := ∃ R2 ρ2 c2, (rf_J R0 R2 ∧ pr_fin A ρ2 c2) ∧ ∀ h, rf_At r R1 h → rf_G r 194 pc ls [] h (some (.long (if lf_b (hv A) ρ2 A.length 0 = true then -1 else c2 + 1000000 * must))) R2
def pr_lab (R1 : rf_R) (F : Nat → Option Int) : Prop := ∀ v, v < 2882 → R1.2.1 35 v = sp_rep (F v)
theorem rc_pr_in (r : Nat) (R0 : rf_R) (A : List gA) (wf : pr_wf A) (must : Int64) (u5 u6 : Value) (F : Nat → Option Int) (sm : ∀ v x, F v = some x → -2 ^ 45 ≤ x ∧ x ≤ 2 ^ 45) (h0 : F 2880 = some 0) (t : Int) (ht : F 2881 = some t) (P : Nat → Int) (hP : ∀ v x, F v = some x → P v = x)
    (K : ∀ ρ R1 c D (V : List Nat), rf_J R0 R1 → rf_HG R1 (hv A) ρ → pr_ok A ρ D c → fl_pv A.length (pT A) (pY A) (pC A) (pr ρ) P → pr_fv A ρ F → 2880 ∈ V → 2881 ∉ V → (∀ v, v ∈ V → v < 2882 ∧ ∃ x, F v = some x) → (∀ i, fd_ok F (hv A) ρ i → ((hv A).getD i hd).1 ∈ V → ((hv A).getD i hd).2.1 ∈ V) → pr_X r R0 A must 119 [.ref r, .long c, .retAddr 0, .long must, .retAddr 0, u5, u6] R1) :
    ∀ (dd : Nat) ρ R1 c D, rf_J R0 R1 → rf_HG R1 (hv A) ρ → pr_lab R1 F → pr_ok A ρ D c → fl_pv A.length (pT A) (pY A) (pC A) (pr ρ) P → pr_fv A ρ F → pr_S A - D ≤ dd → pr_X r R0 A must 93 [.ref r, .long c, .retAddr 0, .long must, .retAddr 0, u5, u6] R1 := by
  intro dd
  induction dd with
  | zero =>
    intro ρ R1 c D j g lab ok pv fv hd
    obtain ⟨v, R2, c2, kF, post⟩ := rc_finds r R1 F (hv A) ρ (pr_sp wf) g lab sm h0
    rcases post with ⟨rfl, l, b, nd⟩ | ⟨rfl, V, v1, v2, v3, v4⟩
    · obtain ⟨m1, ok2, -⟩ := pr_push wf ok hP pv fv h0 ht b nd
      have := pr_D ok2
      omega
    · obtain ⟨R3, ρ2, c3, f, gg⟩ := K ρ R2 c D V (j.tr kF.J) (kF.HG g) ok pv fv v1 v2 v3 v4
      refine ⟨R3, ρ2, c3, f, fun h H => ?_⟩
      refine rf_G.step (pc' := 94) (st' := [_]) rfl rfl ?_
      refine rf_G.v0I H rfl (by decide) rfl ⟨Nat.le_of_ble_eq_true rfl, rfl⟩ (Nat.le_of_ble_eq_true rfl) (c2) (fun h H => ?_)
      refine rf_G.br rfl (jx_br_eq _ _) (fun _ => ?_) (fun zq => absurd (rfl) zq)
      exact gg h H
  | succ dd ih =>
    intro ρ R1 c D j g lab ok pv fv hd
    obtain ⟨v, R2, c2, kF, post⟩ := rc_finds r R1 F (hv A) ρ (pr_sp wf) g lab sm h0
    rcases post with ⟨rfl, l, b, nd⟩ | ⟨rfl, V, v1, v2, v3, v4⟩
    · obtain ⟨m1, ok2, pv2, fv2⟩ := pr_push wf ok hP pv fv h0 ht b nd
      obtain ⟨R3, c3, k3, g3⟩ := rc_sends r R2 F (hv A) ρ (pr_sp wf) pr_sd (kF.HG g) l b
      have e35 : R2.2.1 35 2881 = Int64.ofInt t := by
        rw [kF.2, lab 2881 (by decide), ht]
        rfl
      obtain ⟨R4, ρ2, c4, f, gg⟩ := ih _ R3 _ _ ((j.tr kF.J).tr k3.J) g3 (fun v hv => by rw [k3.2.1 35 (by decide), kF.2]; exact lab v hv) ok2 pv2 fv2 (by omega)
      refine ⟨R4, ρ2, c4, f, fun h H => ?_⟩
      refine rf_G.step (pc' := 94) (st' := [_]) rfl rfl ?_
      refine rf_G.v0I H rfl (by decide) rfl ⟨Nat.le_of_ble_eq_true rfl, rfl⟩ (Nat.le_of_ble_eq_true rfl) (c2) (fun h H => ?_)
      refine rf_G.br rfl (jx_br_eq _ _) (fun zq => absurd zq (by decide)) (fun _ => ?_)
      refine rf_G.step (pc' := 101) (st' := [_]) rfl rfl ?_
      refine rf_G.step (pc' := 102) (st' := [_, _]) rfl rfl ?_
      refine rf_G.get H rfl rfl ?_
      refine rf_G.step (pc' := 108) (st' := [_, _, _]) rfl rfl ?_
      refine rf_G.lald H 35 18 2882 (by decide) rfl (rf_ix (n := 2881) (by decide) (by decide)) ?_
      rw [show R2.2.1 35 (Int32.toNatClampNeg 2881) = Int64.ofInt t from e35]
      refine rf_G.step (pc' := 110) (st' := [_, _, _]) rfl rfl ?_
      refine rf_G.v0I H rfl (by decide) rfl ⟨Nat.le_of_ble_eq_true rfl, rfl⟩ (Nat.le_of_ble_eq_true rfl) (c3) (fun h H => ?_)
      refine rf_G.step (pc' := 114) (st' := [_, _]) rfl rfl ?_
      refine rf_G.step (pc' := 115) (st' := [_]) rfl rfl ?_
      refine rf_G.step (pc' := 116) (ls' := [_, _, _, _, _, _, _]) (st' := []) rfl rfl ?_
      refine rf_G.step (pc' := 93) (st' := []) rfl rfl ?_
      exact gg h H
    · obtain ⟨R3, ρ2, c3, f, gg⟩ := K ρ R2 c D V (j.tr kF.J) (kF.HG g) ok pv fv v1 v2 v3 v4
      refine ⟨R3, ρ2, c3, f, fun h H => ?_⟩
      refine rf_G.step (pc' := 94) (st' := [_]) rfl rfl ?_
      refine rf_G.v0I H rfl (by decide) rfl ⟨Nat.le_of_ble_eq_true rfl, rfl⟩ (Nat.le_of_ble_eq_true rfl) (c2) (fun h H => ?_)
      refine rf_G.br rfl (jx_br_eq _ _) (fun _ => ?_) (fun zq => absurd (rfl) zq)
      exact gg h H
theorem rc_pr_out (r : Nat) (R0 : rf_R) (A : List gA) (wf : pr_wf A) (must : Int64) (x5 : Int32) (u6 : Value) :
    ∀ (d : Nat) ρ R1 F c D p, rf_J R0 R1 → rf_HG R1 (hv A) ρ → pr_lab R1 F → pr_ok A ρ D c → sp_pot (hv A) ρ p → p 2880 = 0 → p 2881 < 0 → (∀ v x, F v = some x ↔ sp_D (sp_adj (hv A) ρ) 2880 v x) → (∀ t, F 2881 = some t → -t ≤ d) → pr_X r R0 A must 80 [.ref r, .long c, .retAddr 0, .long must, .retAddr 0, .int x5, u6] R1 := by
  have hn := wf.1
  -- the end
  have fin : ∀ ρ R1 F c D p, rf_J R0 R1 → rf_HG R1 (hv A) ρ → pr_lab R1 F → pr_ok A ρ D c → sp_pot (hv A) ρ p → p 2880 = 0 → p 2881 < 0 → (∀ v x, F v = some x ↔ sp_D (sp_adj (hv A) ρ) 2880 v x) → (∀ t, F 2881 = some t → 0 ≤ t) → pr_X r R0 A must 80 [.ref r, .long c, .retAddr 0, .long must, .retAddr 0, .int x5, u6] R1 := by
    intro ρ R1 F c D p j g lab ok po p0 p1 hF ht
    refine ⟨R1, ρ, c, ⟨j, pr_done wf ok po p0 p1 hF ht⟩, fun h H => ?_⟩
    have e35 : ¬ R1.2.1 35 2881 < 0 := by
      rw [lab 2881 (by decide), Int64.lt_iff_toInt_lt]
      cases hh : F 2881 with
      | none =>
        rw [sp_rep_none]
        decide
      | some t =>
        have h1 := ht t hh
        have h2 := (pr_sm wf po hF).1 2881 t hh
        rw [sp_rep_some (by omega), show (0 : Int64).toInt = 0 from by decide]
        omega
    refine rf_G.step (pc' := 81) (st' := [_]) rfl rfl ?_
    refine rf_G.get H rfl rfl ?_
    refine rf_G.step (pc' := 87) (st' := [_, _]) rfl rfl ?_
    refine rf_G.lald H 35 18 2882 (by decide) rfl (rf_ix (n := 2881) (by decide) (by decide)) ?_
    refine rf_G.step (pc' := 89) (st' := [_, _]) rfl rfl ?_
    refine rf_G.step (pc' := 90) (st' := [_]) rfl rfl ?_
    refine rf_G.br rfl (jx_br_ge _ _) (fun _ => ?_) (fun zq => absurd (Int32.not_lt.mp (fun q => e35 ((lg_cmp_lt0 _ _).mp q))) zq)
    refine rf_G.step (pc' := 127) (st' := [_]) rfl rfl ?_
    refine rf_G.step (pc' := 130) (st' := [_, _]) rfl rfl ?_
    refine rf_G.step (pc' := 131) (st' := [_, _, _]) rfl rfl ?_
    refine rf_G.step (pc' := 132) (st' := [_, _]) rfl rfl ?_
    refine rf_G.step (pc' := 133) (st' := [_]) rfl rfl ?_
    refine rf_G.step (pc' := 135) (ls' := [_, _, _, _, _, _, _]) (st' := []) rfl rfl ?_
    refine rf_G.step (pc' := 136) (st' := [_]) rfl rfl ?_
    refine rf_G.v0I H rfl (by decide) rfl ⟨Nat.le_of_ble_eq_true rfl, rfl⟩ (Nat.le_of_ble_eq_true rfl) (rc_left r R1 (hv A) ρ (pr_sp wf) g A.length (hv_len A)) (fun h H => ?_)
    by_cases z : lf_b (hv A) ρ A.length 0 = true
    · rw [if_pos z]
      refine rf_G.br rfl (jx_br_eq _ _) (fun zq => absurd zq (fun q => (rf_o_0 _).mp q z)) (fun _ => ?_)
      refine rf_G.step (pc' := 145) (st' := [_]) rfl rfl ?_
      refine rf_G.step (pc' := 150) (st' := [_]) rfl rfl ?_
      exact rf_G.ret H rfl rfl
    · rw [if_neg z]
      refine rf_G.br rfl (jx_br_eq _ _) (fun _ => ?_) (fun zq => absurd ((rf_o_0 _).mpr z) zq)
      refine rf_G.step (pc' := 150) (st' := [_]) rfl rfl ?_
      exact rf_G.ret H rfl rfl
  intro d
  induction d with
  | zero =>
    intro ρ R1 F c D p j g lab ok po p0 p1 hF ht
    exact fin ρ R1 F c D p j g lab ok po p0 p1 hF (fun t h => by have := ht t h; omega)
  | succ d ih =>
    intro ρ R1 F c D p j g lab ok po p0 p1 hF ht
    by_cases hneg : ∃ t, F 2881 = some t ∧ t < 0
    · obtain ⟨t, h1, h2⟩ := hneg
      obtain ⟨sm, h0⟩ := pr_sm wf po hF
      have fv := pr_fv_of wf po hF
      obtain ⟨P, q1, q2, -⟩ := pr_total wf po fv 0
      have htd := ht t h1
      have st := sm 2881 t h1
      have hin := rc_pr_in r R0 A wf must (.int x5) u6 F sm h0 t h1 P q1 (fun ρ R1 c D V j g ok pv fv v1 v2 v3 v4 => by
        have pv2 := pr_next q1 pv fv v3 v4
        obtain ⟨R3, F3, c3, k3, lab3, hF3⟩ := rc_reaches r R1 (hv A) ρ _ (pr_sp wf) (pr_pot.mpr pv2) g
        obtain ⟨R4, ρ2, c4, f, gg⟩ := ih ρ R3 F3 c D P (j.tr k3.J) (k3.HG g) lab3 ok (pr_pot.mpr pv) (q1 _ _ h0) (by rw [q1 _ _ h1]; exact h2) hF3 (fun t3 h3 => by
          obtain ⟨k, hk⟩ := ((hF3 _ _).mp h3).1
          have := (sp_W_lt (sp_adj_ok (pr_sp wf) (pr_pot.mpr pv2) (by decide)) k 2881 t3 hk).2
          rw [if_neg v2, if_pos v1, q1 _ _ h0, q1 _ _ h1] at this
          omega)
        refine ⟨R4, ρ2, c4, f, fun h H => ?_⟩
        refine rf_G.step (pc' := 120) (st' := [_]) rfl rfl ?_
        refine rf_G.v0V H rfl (by decide) rfl ⟨Nat.le_of_ble_eq_true rfl, rfl⟩ (Nat.le_of_ble_eq_true rfl) (c3) (fun h H => ?_)
        refine rf_G.step (pc' := 80) (st' := []) rfl rfl ?_
        exact gg h H)
      obtain ⟨R4, ρ2, c4, f, gg⟩ := hin (pr_S A - D).toNat ρ R1 c D j g lab ok q2 fv (by omega)
      refine ⟨R4, ρ2, c4, f, fun h H => ?_⟩
      have e35 : R1.2.1 35 2881 < 0 := by
        rw [lab 2881 (by decide), h1, Int64.lt_iff_toInt_lt, sp_rep_some (by omega)]
        exact h2
      refine rf_G.step (pc' := 81) (st' := [_]) rfl rfl ?_
      refine rf_G.get H rfl rfl ?_
      refine rf_G.step (pc' := 87) (st' := [_, _]) rfl rfl ?_
      refine rf_G.lald H 35 18 2882 (by decide) rfl (rf_ix (n := 2881) (by decide) (by decide)) ?_
      refine rf_G.step (pc' := 89) (st' := [_, _]) rfl rfl ?_
      refine rf_G.step (pc' := 90) (st' := [_]) rfl rfl ?_
      refine rf_G.br rfl (jx_br_ge _ _) (fun zq => absurd zq (Int32.not_le.mpr ((lg_cmp_lt0 _ _).mpr e35))) (fun _ => ?_)
      exact gg h H
    · exact fin ρ R1 F c D p j g lab ok po p0 p1 hF (fun t h => Int.not_lt.mp (fun q => hneg ⟨t, h, q⟩))
def pr_must (N : Nat → Int32) : Nat → Int64
  | 0 => 0
  | s + 1 => pr_must N s + (if N (2 + 24 * s) < 3 then (rf_total N s).toInt64 else 0)
theorem rc_price_no (r : Nat) (R : rf_R) (h40 : R.2.2.1 39 = nI 40) : rf_C 194 r [.ref r] R (some (.long (-2))) R := by
  intro h H
  show rf_G r 194 0 [.ref r, .retAddr 0, .retAddr 0, .retAddr 0, .retAddr 0, .retAddr 0, .retAddr 0] [] h _ _
  refine rf_G.step (pc' := 1) (st' := [_]) rfl rfl ?_
  refine rf_G.get H rfl rfl ?_
  rw [h40]
  refine rf_G.step (pc' := 6) (st' := [_, _]) rfl rfl ?_
  refine rf_G.bcn rfl (fun zq => absurd (rfl) zq) (fun _ => ?_)
  refine rf_G.step (pc' := 12) (st' := [_]) rfl rfl ?_
  exact rf_G.ret H rfl rfl
/-- rooms at the start -/
theorem pr_0 {A : List gA} (wf : pr_wf A) : pr_ok A (hv_r A) 0 0 := by
  have z : ∀ e, pr (hv_r A) (2 * e + 1) = 0 := fun e => by
    unfold pr
    rw [hv_r_1]
    decide
  refine ⟨fun e he => ?_, fun p => ?_, ?_⟩
  · rw [z]
    have : pr (hv_r A) (2 * e) = pcap A e := by
      unfold pr hv_r pcap
      rw [if_pos (by omega), show 2 * e / 2 = e by omega]
    have := (wf.2 e he).2.2.2.1
    have : pcap A e = (A.getD e gd).2.2.1.toInt := rfl
    omega
  · unfold fl_wt
    rw [fl_sum_congr A.length (h := fun _ => 0) (fun e _ => by rw [z, Int.zero_mul]), Int.zero_mul]
    have : ∀ m, fl_sum (fun _ => 0) m = 0 := by
      intro m
      induction m with
      | zero => rfl
      | succ m ih => rw [fl_sum, ih]; rfl
    exact this _
  · unfold fl_cost fl_wt
    rw [fl_sum_congr A.length (h := fun _ => 0) (fun e _ => by rw [z, Int.zero_mul])]
    have : ∀ m, fl_sum (fun _ => 0) m = 0 := by
      intro m
      induction m with
      | zero => rfl
      | succ m ih => rw [fl_sum, ih]; rfl
    rw [this]
    decide
theorem rc_price (r : Nat) {R : rf_R} {M k : Nat} (P : rf_Pre R M 0) (hk : k < 40) (ek : R.2.2.1 39 = nI k) (wf : pr_wf (gr_A (R.1 0) M)) (p : Nat → Int) (po : sp_pot (hv (gr_A (R.1 0) M)) (hv_r (gr_A (R.1 0) M)) p) (p0 : p 2880 = 0) (p1 : p 2881 < 0) : ∃ R2 ρ c, rf_C 194 r [.ref r] R (some (.long (if lf_b (hv (gr_A (R.1 0) M)) ρ (gr_A (R.1 0) M).length 0 = true then -1 else c + 1000000 * pr_must (R.1 0) M))) R2 ∧ rf_J (rf_sI R 39 (nI (k + 1))) R2 ∧ pr_fin (gr_A (R.1 0) M) ρ c := by
  have hM := P.hM
  have P1 : rf_Pre (rf_sI R 39 (nI (k + 1))) M 0 := ⟨P.hM, P.hE, P.eM, P.eE, P.ok⟩
  obtain ⟨R1, c1, j1, g1⟩ := rc_graph r P1
  rw [show (rf_sI R 39 (nI (k + 1))).1 0 = R.1 0 from rfl] at g1
  have eN : R1.1 0 = R.1 0 := j1.1
  obtain ⟨R2, F, c2, k2, lab, hF⟩ := rc_reaches r R1 _ _ p (pr_sp wf) po g1
  obtain ⟨d, hd⟩ : ∃ d : Nat, ∀ t, F 2881 = some t → -t ≤ d := by
    cases h : F 2881 with
    | none => exact ⟨0, fun t ht => absurd ht (by simp)⟩
    | some x => exact ⟨(-x).toNat, fun t ht => by rw [← Option.some.inj ht]; omega⟩
  obtain ⟨R3, ρ, c, ⟨f1, f2⟩, gg⟩ := rc_pr_out r (rf_sI R 39 (nI (k + 1))) _ wf (pr_must (R.1 0) M) (nI M) (.retAddr 0) d _ R2 F 0 0 p (j1.tr k2.J) (k2.HG g1) lab (pr_0 wf) po p0 p1 hF hd
  refine ⟨R3, ρ, c, ?_, f1, f2⟩
  have loop : ∀ dd s, s + dd = M → ∀ h, rf_At r R1 h → rf_G r 194 34 [.ref r, .long 0, .retAddr 0, .long (pr_must (R.1 0) s), .retAddr 0, .int (nI s), .retAddr 0] [] h (some (.long (if lf_b (hv (gr_A (R.1 0) M)) ρ (gr_A (R.1 0) M).length 0 = true then -1 else c + 1000000 * pr_must (R.1 0) M))) R3 := by
    have PR := j1.pre P1
    intro dd
    induction dd with
    | zero =>
      intro s hs h H
      obtain rfl : s = M := by omega
      have eM : R1.1 0 (Int32.toNatClampNeg 0) = nI s := PR.eM
      refine rf_G.step (pc' := 36) (st' := [_]) rfl rfl ?_
      refine rf_G.step (pc' := 37) (st' := [_, _]) rfl rfl ?_
      refine rf_G.get H rfl rfl ?_
      refine rf_G.step (pc' := 41) (st' := [_, _, _]) rfl rfl ?_
      refine rf_G.iald H 0 1 822 (by decide) rfl (rf_ix (n := 0) (by decide) (by decide)) ?_
      rw [eM]
      refine rf_G.bc rfl (jx_br_ge _ _) (fun _ => ?_) (fun zq => absurd (Int32.le_refl _) zq)
      refine rf_G.step (pc' := 77) (st' := [_]) rfl rfl ?_
      refine rf_G.v0V H rfl (by decide) rfl ⟨Nat.le_of_ble_eq_true rfl, rfl⟩ (Nat.le_of_ble_eq_true rfl) (c2) (fun h H => ?_)
      exact gg h H
    | succ dd ih =>
      intro s hs h H
      have eM : R1.1 0 (Int32.toNatClampNeg 0) = nI M := PR.eM
      have c0 := rc_of r R1 s 0 (by omega) (by decide)
      have ct := rc_totalP r PR s (by omega)
      rw [eN] at c0 ct
      rw [Nat.add_zero] at c0
      have nx := ih (s + 1) (by omega)
      rw [show pr_must (R.1 0) (s + 1) = pr_must (R.1 0) s + (if R.1 0 (2 + 24 * s) < 3 then (rf_total (R.1 0) s).toInt64 else 0) from rfl] at nx
      refine rf_G.step (pc' := 36) (st' := [_]) rfl rfl ?_
      refine rf_G.step (pc' := 37) (st' := [_, _]) rfl rfl ?_
      refine rf_G.get H rfl rfl ?_
      refine rf_G.step (pc' := 41) (st' := [_, _, _]) rfl rfl ?_
      refine rf_G.iald H 0 1 822 (by decide) rfl (rf_ix (n := 0) (by decide) (by decide)) ?_
      rw [eM]
      refine rf_G.bc rfl (jx_br_ge _ _) (fun zq => absurd zq (nI_ge (by omega) (by omega))) (fun _ => ?_)
      refine rf_G.step (pc' := 46) (st' := [_]) rfl rfl ?_
      refine rf_G.step (pc' := 47) (st' := [_, _]) rfl rfl ?_
      refine rf_G.step (pc' := 49) (st' := [_, _, _]) rfl rfl ?_
      refine rf_G.step (pc' := 50) (st' := [_, _, _, _]) rfl rfl ?_
      refine rf_G.v2I H rfl (by decide) rfl ⟨Nat.le_of_ble_eq_true rfl, rfl⟩ (Nat.le_of_ble_eq_true rfl) (c0) (fun h H => ?_)
      refine rf_G.step (pc' := 54) (st' := [_, _, _]) rfl rfl ?_
      by_cases z : R.1 0 (2 + 24 * s) < 3
      · rw [if_pos z] at nx
        refine rf_G.bc rfl (jx_br_ge _ _) (fun zq => absurd zq (Int32.not_le.mpr z)) (fun _ => ?_)
        refine rf_G.step (pc' := 58) (st' := [_, _]) rfl rfl ?_
        refine rf_G.step (pc' := 60) (st' := [_, _, _]) rfl rfl ?_
        refine rf_G.v1I H rfl (by decide) rfl ⟨Nat.le_of_ble_eq_true rfl, rfl⟩ (Nat.le_of_ble_eq_true rfl) (ct) (fun h H => ?_)
        refine rf_G.step (pc' := 64) (st' := [_, _]) rfl rfl ?_
        refine rf_G.step (pc' := 68) (st' := [_, _]) rfl rfl ?_
        refine rf_G.step (pc' := 69) (st' := [_]) rfl rfl ?_
        refine rf_G.step (pc' := 70) (ls' := [_, _, _, _, _, _, _]) (st' := []) rfl rfl ?_
        refine rf_G.step (pc' := 73) (ls' := [_, _, _, _, _, _, _]) (st' := []) rfl rfl ?_
        refine rf_G.step (pc' := 34) (st' := []) rfl rfl ?_
        rw [nI_1]
        exact nx h H
      · rw [if_neg z] at nx
        refine rf_G.bc rfl (jx_br_ge _ _) (fun _ => ?_) (fun zq => absurd (Int32.not_lt.mp z) zq)
        refine rf_G.step (pc' := 68) (st' := [_, _]) rfl rfl ?_
        refine rf_G.step (pc' := 69) (st' := [_]) rfl rfl ?_
        refine rf_G.step (pc' := 70) (ls' := [_, _, _, _, _, _, _]) (st' := []) rfl rfl ?_
        refine rf_G.step (pc' := 73) (ls' := [_, _, _, _, _, _, _]) (st' := []) rfl rfl ?_
        refine rf_G.step (pc' := 34) (st' := []) rfl rfl ?_
        rw [nI_1]
        exact nx h H
  intro h H
  show rf_G r 194 0 [.ref r, .retAddr 0, .retAddr 0, .retAddr 0, .retAddr 0, .retAddr 0, .retAddr 0] [] h _ _
  refine rf_G.step (pc' := 1) (st' := [_]) rfl rfl ?_
  refine rf_G.get H rfl rfl ?_
  rw [ek]
  refine rf_G.step (pc' := 6) (st' := [_, _]) rfl rfl ?_
  refine rf_G.bcn rfl (fun _ => ?_) (fun zq => absurd zq (fun q => by have := (nI_inj (a := k) (b := 40) (by omega) (by decide)).mp q; omega))
  refine rf_G.step (pc' := 14) (st' := [_]) rfl rfl ?_
  refine rf_G.step (pc' := 15) (st' := [_, _]) rfl rfl ?_
  refine rf_G.get H rfl rfl ?_
  rw [ek]
  refine rf_G.step (pc' := 19) (st' := [_, _, _]) rfl rfl ?_
  refine rf_G.step (pc' := 20) (st' := [_, _]) rfl rfl ?_
  rw [nI_1]
  refine rf_G.putI H rfl rfl (by decide) rfl (fun h H => ?_)
  refine rf_G.step (pc' := 24) (st' := [_]) rfl rfl ?_
  refine rf_G.v0V H rfl (by decide) rfl ⟨Nat.le_of_ble_eq_true rfl, rfl⟩ (Nat.le_of_ble_eq_true rfl) (c1) (fun h H => ?_)
  refine rf_G.step (pc' := 28) (st' := [_]) rfl rfl ?_
  refine rf_G.step (pc' := 29) (ls' := [_, _, _, _, _, _, _]) (st' := []) rfl rfl ?_
  refine rf_G.step (pc' := 30) (st' := [_]) rfl rfl ?_
  refine rf_G.step (pc' := 31) (ls' := [_, _, _, _, _, _, _]) (st' := []) rfl rfl ?_
  refine rf_G.step (pc' := 32) (st' := [_]) rfl rfl ?_
  refine rf_G.step (pc' := 34) (ls' := [_, _, _, _, _, _, _]) (st' := []) rfl rfl ?_
  exact loop M 0 (by omega) h H
