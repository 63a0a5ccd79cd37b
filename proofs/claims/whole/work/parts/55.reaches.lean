/-! the reference: reaches, whole -/
theorem sp_fold_U {n : Nat} {C : Int} (hC : 0 ≤ C) {a : Nat} : ∀ (l : List (Nat × Int)) (st : sp_S), (∀ e, e ∈ l → e.1 < n ∧ e.2 ≤ C) → sp_U n C st → sp_U n C (l.foldl (sp_rlx a) st)
  | [], _, _, u => u
  | e :: l, st, hl, u => sp_fold_U hC l (sp_rlx a st e) (fun x hx => hl x (List.mem_cons_of_mem _ hx)) (sp_rlx_U hC (hl e (List.mem_cons_self ..)).1 (hl e (List.mem_cons_self ..)).2 u)
theorem sp_step_U {H : List hA} {ρ : Nat → Int64} (wf : sp_wf H) {st : sp_S} (u : sp_U 2882 1000000 st) : sp_U 2882 1000000 (sp_step (sp_adj H ρ) st) := by
  obtain ⟨f, Q⟩ := st
  cases Q with
  | nil => exact u
  | cons a Q =>
    refine sp_fold_U (by decide) _ (f, Q) (fun e he => ?_) u
    obtain ⟨i, h1, h2, h3, rfl⟩ := sp_adj_mem.mp he
    exact ⟨(wf.2 i h1).2.1, (wf.2 i h1).2.2.2⟩
theorem rc_reach_out (r : Nat) (R : rf_R) (H : List hA) (ρ : Nat → Int64) (p : Nat → Int) (wf : sp_wf H) (po : sp_pot H ρ p) (g : rf_HG R H ρ) (s : Nat) (hs : s < 2882) :
    ∀ (d : Nat) (st : sp_S) (R1 : rf_R) (first : Nat) (u3 u4 : Value), sp_I (sp_adj H ρ) 2882 s st → sp_U 2882 1000000 st → rf_kS R R1 → rf_SP R1 st first → (sp_it (sp_adj H ρ) d st).2 = [] → ∃ R3, (rf_kS R R3 ∧ ∀ v, v < 2882 → R3.2.1 35 v = sp_rep ((sp_it (sp_adj H ρ) d st).1 v)) ∧ ∀ h, rf_At r R1 h → rf_G r 200 62 [.ref r, .int (nI first), .int (nI st.2.length), u3, u4] [] h none R3 := by
  have stop : ∀ (st : sp_S) (R1 : rf_R) (first : Nat) (u3 u4 : Value), st.2 = [] → ∀ h, rf_At r R1 h → rf_G r 200 62 [.ref r, .int (nI first), .int (nI st.2.length), u3, u4] [] h none R1 := by
    intro st R1 first u3 u4 e h H
    rw [e]
    refine rf_G.step (pc' := 63) (st' := [_]) rfl rfl ?_
    refine rf_G.br rfl (jx_br_le _ _) (fun _ => ?_) (fun zq => absurd (by decide) zq)
    exact rf_G.ret H rfl rfl
  intro d
  induction d with
  | zero =>
    intro st R1 first u3 u4 i u k sp he
    exact ⟨R1, ⟨k, fun v hv => (sp.2.1 v hv).1⟩, stop st R1 first u3 u4 he⟩
  | succ d ih =>
    intro st R1 first u3 u4 i u k sp he
    by_cases hq : st.2 = []
    · refine ⟨R1, ⟨k, fun v hv => ?_⟩, stop st R1 first u3 u4 hq⟩
      rw [sp_it_nil hq]
      exact (sp.2.1 v hv).1
    · have si := sp_step_ok (sp_adj_ok wf po hs) i
      have su := sp_step_U (ρ := ρ) wf u
      obtain ⟨f, Q0⟩ := st
      cases Q0 with
      | nil => exact absurd rfl hq
      | cons a Q =>
        obtain ⟨⟨i1, i2, i3, i4⟩, i5⟩ := i
        obtain ⟨ha, x, hx⟩ := i4 a (List.mem_cons_self ..)
        obtain ⟨n1, n2⟩ := List.nodup_cons.mp i3
        have hl : (a :: Q).length ≤ 2882 := sp_len 2882 _ i3 (fun v hv => (i4 v hv).1)
        have hf := sp.1
        rw [List.length_cons] at hl
        have g1 := k.HG g
        have e34 : R1.1 34 = R.1 34 := k.1 34 (by decide)
        obtain ⟨R3, f3, gg⟩ := rc_reach_in r R H ρ p wf po g s hs a ha (fun R3 => rf_kS R R3 ∧ ∀ v, v < 2882 → R3.2.1 35 v = sp_rep ((sp_it (sp_adj H ρ) d (sp_step (sp_adj H ρ) (f, a :: Q))).1 v)) ((first + 1) % 2882) (hg_adj H a) (R.1 34 a) (f, Q) (rf_sA R1 37 (upd (R1.1 37) a 0)) (fun i hi => hi) (k.tr (rf_kS.A (by decide))) ⟨Nat.mod_lt _ (by decide), fun v hv => ⟨(sp.2.1 v hv).1, by
          show upd (R1.1 37) a 0 v = if v ∈ Q then 1 else 0
          unfold upd
          by_cases e : v = a
          · rw [if_pos e, if_neg (by rw [e]; exact n1)]
          · rw [if_neg e, (sp.2.1 v hv).2]
            have : v ∈ a :: Q ↔ v ∈ Q := by
              rw [List.mem_cons]
              exact ⟨fun h => h.resolve_left e, Or.inr⟩
            simp only [this]⟩, fun j hj => by
          have := sp.2.2 (j + 1) (Nat.succ_lt_succ hj)
          rw [show ((first + 1) % 2882 + j) % 2882 = (first + (j + 1)) % 2882 by omega]
          exact this⟩ ⟨i1, i2, n2, fun v hv => i4 v (List.mem_cons_of_mem _ hv)⟩ ⟨x, hx⟩ u (fun v hv y hy hq => i5 v y hy (fun q => by
          rcases List.mem_cons.mp q with q | q
          · exact hv q
          · exact hq q)) (g.2.2 a ha) (fun R2 x2 k2 sp2 => ih _ R2 ((first + 1) % 2882) (.int (nI a)) (.int x2) si su k2 sp2 he)
        refine ⟨R3, f3, fun h H => ?_⟩
        have ew : R1.1 38 first = nI a := by
          have := sp.2.2 0 (Nat.succ_pos _)
          rw [Nat.add_zero, Nat.mod_eq_of_lt hf] at this
          exact this
        refine rf_G.step (pc' := 63) (st' := [_]) rfl rfl ?_
        refine rf_G.br rfl (jx_br_le _ _) (fun zq => absurd zq (nI_ge (a := 0) (b := Q.length + 1) (by omega) (by omega))) (fun _ => ?_)
        refine rf_G.step (pc' := 67) (st' := [_]) rfl rfl ?_
        refine rf_G.get H rfl rfl ?_
        refine rf_G.step (pc' := 71) (st' := [_, _]) rfl rfl ?_
        refine rf_G.iald H 38 21 2882 (by decide) rfl (rf_ix (by omega) (by decide)) ?_
        rw [nI_clamp (by omega), ew]
        refine rf_G.step (pc' := 73) (ls' := [_, _, _, _, _]) (st' := []) rfl rfl ?_
        refine rf_G.step (pc' := 74) (st' := [_]) rfl rfl ?_
        refine rf_G.step (pc' := 75) (st' := [_, _]) rfl rfl ?_
        refine rf_G.step (pc' := 76) (st' := [_]) rfl rfl ?_
        refine rf_G.step (pc' := 79) (st' := [_, _]) rfl rfl ?_
        refine rf_G.irem rfl (by decide) ?_
        rw [nI_1, rf_lit 2882, pk_rem (by omega) (by decide) (by decide)]
        refine rf_G.step (pc' := 81) (ls' := [_, _, _, _, _]) (st' := []) rfl rfl ?_
        refine rf_G.step (pc' := 84) (ls' := [_, _, _, _, _]) (st' := []) rfl rfl ?_
        rw [show (nI (a :: Q).length : Int32) + -1 = nI Q.length from pk_m1 _]
        refine rf_G.step (pc' := 85) (st' := [_]) rfl rfl ?_
        refine rf_G.get H rfl rfl ?_
        refine rf_G.step (pc' := 89) (st' := [_, _]) rfl rfl ?_
        refine rf_G.step (pc' := 90) (st' := [_, _, _]) rfl rfl ?_
        refine rf_G.zast H 37 20 2882 (by decide) rfl (rf_ix (by omega) (by decide)) (fun h H => ?_)
        rw [nI_clamp (by omega)] at H
        refine rf_G.step (pc' := 92) (st' := [_]) rfl rfl ?_
        refine rf_G.get H rfl rfl ?_
        refine rf_G.step (pc' := 96) (st' := [_, _]) rfl rfl ?_
        refine rf_G.iald H 34 17 2882 (by decide) rfl (rf_ix (by omega) (by decide)) ?_
        rw [nI_clamp (by omega), show ∀ f, (rf_sA R1 37 f).1 34 a = R.1 34 a from fun f => congrFun e34 a]
        refine rf_G.step (pc' := 99) (ls' := [_, _, _, _, _]) (st' := []) rfl rfl ?_
        exact gg h H
theorem rc_reaches (r : Nat) (R : rf_R) (H : List hA) (ρ : Nat → Int64) (p : Nat → Int) (wf : sp_wf H) (po : sp_pot H ρ p) (g : rf_HG R H ρ) : ∃ (R2 : rf_R) (F : Nat → Option Int), rf_C 200 r [.ref r] R none R2 ∧ rf_kS R R2 ∧ (∀ v, v < 2882 → R2.2.1 35 v = sp_rep (F v)) ∧ ∀ v x, F v = some x ↔ sp_D (sp_adj H ρ) 2880 v x := by
  have ok := sp_adj_ok wf po (s := 2880) (by decide)
  obtain ⟨K, hK⟩ : ∃ K, sp_tri 2882 ≤ K := ⟨_, Nat.le_refl _⟩
  have mn := sp_main ok K hK
  clear hK
  have fill : ∀ d k R1, k + d = 2882 → rf_kS R R1 → (∀ v, v < k → R1.2.1 35 v = 1125899906842624 ∧ R1.1 37 v = 0) → ∃ R2, (rf_kS R R2 ∧ ∀ v, v < 2882 → R2.2.1 35 v = sp_rep ((sp_it (sp_adj H ρ) K (sp_0 2880)).1 v)) ∧ ∀ h, rf_At r R1 h → rf_G r 200 2 [.ref r, .int (nI k), .retAddr 0, .retAddr 0, .retAddr 0] [] h none R2 := by
    intro d
    induction d with
    | zero =>
      intro k R1 hk k1 hz
      obtain rfl : k = 2882 := by omega
      have u0 : sp_U 2882 1000000 (sp_0 2880) := by
        intro v x hx
        have hx : (if v = 2880 then some (0 : Int) else none) = some x := hx
        have h0 : x = 0 := by
          by_cases e : v = 2880
          · rw [if_pos e] at hx
            exact (Option.some.inj hx).symm
          · rw [if_neg e] at hx
            exact absurd hx (by simp)
        have h1 := sp_cnt_set (fun _ => none) 2880 0 2882
        rw [if_pos ⟨by decide, rfl⟩] at h1
        have h2 : sp_cnt (sp_0 2880).1 2882 = sp_cnt (fun _ => none) 2882 + 1 := h1
        have h3 : (1000000 : Int) * ((sp_cnt (fun _ => none) 2882 + 1 : Nat) : Int) = 1000000 * (sp_cnt (fun _ => none) 2882 : Int) + 1000000 := by
          rw [Int.natCast_add, Int.mul_add]
          simp
        rw [h2, h3]
        omega
      obtain ⟨R2, f, gg⟩ := rc_reach_out r R H ρ p wf po g 2880 (by decide) K (sp_0 2880) (rf_sA (rf_sA (rf_sB R1 35 (vp_updL (R1.2.1 35) 2880 0)) 38 (upd (R1.1 38) 0 2880)) 37 (upd (R1.1 37) 2880 1)) 0 (.retAddr 0) (.retAddr 0) (sp_0_I ok) u0 (((k1.tr rf_kS.B).tr (rf_kS.A (by decide))).tr (rf_kS.A (by decide))) ⟨by decide, fun v hv => by
        show vp_updL (R1.2.1 35) 2880 0 v = sp_rep (if v = 2880 then some 0 else none) ∧ upd (R1.1 37) 2880 1 v = if v ∈ [2880] then 1 else 0
        unfold vp_updL upd
        simp only [List.mem_singleton]
        by_cases e : v = 2880
        · simp only [if_pos e]
          exact ⟨rfl, trivial⟩
        · simp only [if_neg e]
          exact hz v hv, fun j hj => by
        obtain rfl : j = 0 := Nat.lt_one_iff.mp hj
        rfl⟩ mn.1
      refine ⟨R2, f, fun h H => ?_⟩
      refine rf_G.step (pc' := 3) (st' := [_]) rfl rfl ?_
      refine rf_G.step (pc' := 6) (st' := [_, _]) rfl rfl ?_
      refine rf_G.bc rfl (jx_br_ge _ _) (fun _ => ?_) (fun zq => absurd (Int32.le_refl _) zq)
      refine rf_G.step (pc' := 32) (st' := [_]) rfl rfl ?_
      refine rf_G.get H rfl rfl ?_
      refine rf_G.step (pc' := 38) (st' := [_, _]) rfl rfl ?_
      refine rf_G.step (pc' := 39) (st' := [_, _, _]) rfl rfl ?_
      refine rf_G.last H 35 18 2882 (by decide) rfl (rf_ix (n := 2880) (by decide) (by decide)) (fun h H => ?_)
      refine rf_G.step (pc' := 41) (st' := [_]) rfl rfl ?_
      refine rf_G.step (pc' := 42) (ls' := [_, _, _, _, _]) (st' := []) rfl rfl ?_
      refine rf_G.step (pc' := 43) (st' := [_]) rfl rfl ?_
      refine rf_G.step (pc' := 44) (ls' := [_, _, _, _, _]) (st' := []) rfl rfl ?_
      refine rf_G.step (pc' := 45) (st' := [_]) rfl rfl ?_
      refine rf_G.get H rfl rfl ?_
      refine rf_G.step (pc' := 49) (st' := [_, _]) rfl rfl ?_
      refine rf_G.step (pc' := 52) (st' := [_, _, _]) rfl rfl ?_
      refine rf_G.iast H 38 21 2882 (by decide) rfl (rf_ix (n := 0) (by decide) (by decide)) (fun h H => ?_)
      refine rf_G.step (pc' := 54) (st' := [_]) rfl rfl ?_
      refine rf_G.get H rfl rfl ?_
      refine rf_G.step (pc' := 60) (st' := [_, _]) rfl rfl ?_
      refine rf_G.step (pc' := 61) (st' := [_, _, _]) rfl rfl ?_
      refine rf_G.zast H 37 20 2882 (by decide) rfl (rf_ix (n := 2880) (by decide) (by decide)) (fun h H => ?_)
      exact gg h H
    | succ d ih =>
      intro k R1 hk k1 hz
      obtain ⟨R2, f, gg⟩ := ih (k + 1) (rf_sA (rf_sB R1 35 (vp_updL (R1.2.1 35) k 1125899906842624)) 37 (upd (R1.1 37) k 0)) (by omega) ((k1.tr rf_kS.B).tr (rf_kS.A (by decide))) (fun v hv => by
        show vp_updL (R1.2.1 35) k 1125899906842624 v = _ ∧ upd (R1.1 37) k 0 v = 0
        unfold vp_updL upd
        by_cases e : v = k
        · rw [if_pos e, if_pos e]
          exact ⟨rfl, rfl⟩
        · rw [if_neg e, if_neg e]
          exact hz v (by omega))
      refine ⟨R2, f, fun h H => ?_⟩
      refine rf_G.step (pc' := 3) (st' := [_]) rfl rfl ?_
      refine rf_G.step (pc' := 6) (st' := [_, _]) rfl rfl ?_
      rw [rf_lit 2882]
      refine rf_G.bc rfl (jx_br_ge _ _) (fun zq => absurd zq (nI_ge (by omega) (by omega))) (fun _ => ?_)
      refine rf_G.step (pc' := 10) (st' := [_]) rfl rfl ?_
      refine rf_G.get H rfl rfl ?_
      refine rf_G.step (pc' := 14) (st' := [_, _]) rfl rfl ?_
      refine rf_G.step (pc' := 17) (st' := [_, _, _]) rfl rfl ?_
      refine rf_G.last H 35 18 2882 (by decide) rfl (rf_ix (by omega) (by decide)) (fun h H => ?_)
      rw [nI_clamp (by omega)] at H
      refine rf_G.step (pc' := 19) (st' := [_]) rfl rfl ?_
      refine rf_G.get H rfl rfl ?_
      refine rf_G.step (pc' := 23) (st' := [_, _]) rfl rfl ?_
      refine rf_G.step (pc' := 24) (st' := [_, _, _]) rfl rfl ?_
      refine rf_G.zast H 37 20 2882 (by decide) rfl (rf_ix (by omega) (by decide)) (fun h H => ?_)
      rw [nI_clamp (by omega)] at H
      refine rf_G.step (pc' := 28) (ls' := [_, _, _, _, _]) (st' := []) rfl rfl ?_
      refine rf_G.step (pc' := 2) (st' := []) rfl rfl ?_
      rw [nI_1]
      exact gg h H
  obtain ⟨R2, f, gg⟩ := fill 2882 0 R (by omega) rf_kS.rf (fun v hv => absurd hv (by omega))
  refine ⟨R2, _, ?_, f.1, f.2, mn.2⟩
  intro h H
  show rf_G r 200 0 [.ref r, .retAddr 0, .retAddr 0, .retAddr 0, .retAddr 0] [] h _ _
  refine rf_G.step (pc' := 1) (st' := [_]) rfl rfl ?_
  refine rf_G.step (pc' := 2) (ls' := [_, _, _, _, _]) (st' := []) rfl rfl ?_
  exact gg h H
