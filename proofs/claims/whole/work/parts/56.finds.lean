/-! the reference: finds -/
def fd_t (F : Nat → Option Int) (H : List hA) (i : Nat) : Prop := ∃ x, F (H.getD i hd).1 = some x ∧ F (H.getD i hd).2.1 = some (x + (H.getD i hd).2.2.toInt)
def fd_ok (F : Nat → Option Int) (H : List hA) (ρ : Nat → Int64) (i : Nat) : Prop := i < H.length ∧ ¬ ρ i = 0 ∧ fd_t F H i
/-- the way back from b -/
def bp (F : Nat → Option Int) (H : List hA) (ρ : Nat → Int64) (cb : Nat → Int32) : Nat → List Nat → Prop
  | b, [] => b = 2880
  | b, i :: l => ¬ b = 2880 ∧ cb b = nI i ∧ fd_ok F H ρ i ∧ (H.getD i hd).2.1 = b ∧ bp F H ρ cb (H.getD i hd).1 l
/-- nodes come to, the latest first -/
def fd_tr (F : Nat → Option Int) (H : List hA) (ρ : Nat → Int64) (cb : Nat → Int32) : List Nat → Prop
  | [] => True
  | v :: V => fd_tr F H ρ cb V ∧ v ∉ V ∧ v < 2882 ∧ (∃ x, F v = some x) ∧ (v = 2880 ∨ ¬ v = 2880 ∧ ∃ i, cb v = nI i ∧ fd_ok F H ρ i ∧ (H.getD i hd).2.1 = v ∧ (H.getD i hd).1 ∈ V)
section
variable {F : Nat → Option Int} {H : List hA} {ρ : Nat → Int64}
theorem bp_congr {cb cb2 : Nat → Int32} {V : List Nat} (e : ∀ v, v ∈ V → cb v = cb2 v) : ∀ {l : List Nat} {b : Nat}, (b ∈ V) → (∀ i, i ∈ l → (H.getD i hd).1 ∈ V) → bp F H ρ cb b l → bp F H ρ cb2 b l
  | [], _, _, _, h => h
  | i :: l, b, hb, hl, h => ⟨h.1, by rw [← e b hb]; exact h.2.1, h.2.2.1, h.2.2.2.1, bp_congr e (hl i (List.mem_cons_self ..)) (fun j hj => hl j (List.mem_cons_of_mem _ hj)) h.2.2.2.2⟩
theorem fd_tr_congr {cb cb2 : Nat → Int32} : ∀ {V : List Nat}, (∀ v, v ∈ V → cb v = cb2 v) → fd_tr F H ρ cb V → fd_tr F H ρ cb2 V
  | [], _, _ => trivial
  | v :: V, e, h => ⟨fd_tr_congr (fun w hw => e w (List.mem_cons_of_mem _ hw)) h.1, h.2.1, h.2.2.1, h.2.2.2.1, by rw [← e v (List.mem_cons_self ..)]; exact h.2.2.2.2⟩
theorem fd_path {cb : Nat → Int32} : ∀ {V : List Nat}, fd_tr F H ρ cb V → ∀ b, b ∈ V → ∃ l, bp F H ρ cb b l ∧ (∀ i, i ∈ l → (H.getD i hd).2.1 ∈ V ∧ (H.getD i hd).1 ∈ V) ∧ (l.map (fun i => (H.getD i hd).2.1)).Nodup
  | [], _, b, hb => absurd hb (by simp)
  | v :: V, h, b, hb => by
    obtain ⟨h1, h2, h3, h4, h5⟩ := h
    by_cases e : b = v
    · subst e
      rcases h5 with h5 | ⟨h5, i, h6, h7, h8, h9⟩
      · exact ⟨[], h5, fun i hi => absurd hi (by simp), List.nodup_nil⟩
      · obtain ⟨l, g1, g2, g3⟩ := fd_path h1 _ h9
        refine ⟨i :: l, ⟨h5, h6, h7, h8, g1⟩, fun j hj => ?_, ?_⟩
        · rcases List.mem_cons.mp hj with q | q
          · subst q
            exact ⟨by rw [h8]; exact List.mem_cons_self .., List.mem_cons_of_mem _ h9⟩
          · exact ⟨List.mem_cons_of_mem _ (g2 j q).1, List.mem_cons_of_mem _ (g2 j q).2⟩
        · rw [List.map_cons, h8]
          refine List.nodup_cons.mpr ⟨fun q => ?_, g3⟩
          obtain ⟨j, hj, e⟩ := List.mem_map.mp q
          exact h2 (e ▸ (g2 j hj).1)
    · obtain ⟨l, g1, g2, g3⟩ := fd_path h1 b ((List.mem_cons.mp hb).resolve_left e)
      exact ⟨l, g1, fun j hj => ⟨List.mem_cons_of_mem _ (g2 j hj).1, List.mem_cons_of_mem _ (g2 j hj).2⟩, g3⟩
theorem fd_nd {cb : Nat → Int32} : ∀ {V : List Nat}, fd_tr F H ρ cb V → V.Nodup ∧ (∀ v, v ∈ V → v < 2882 ∧ ∃ x, F v = some x) ∧ ∀ v, v ∈ V → v = 2880 ∨ ∃ i, i < H.length ∧ cb v = nI i
  | [], _ => ⟨List.nodup_nil, fun v hv => absurd hv (by simp), fun v hv => absurd hv (by simp)⟩
  | v :: V, h => by
    obtain ⟨h1, h2, h3, h4, h5⟩ := h
    obtain ⟨g1, g2, g3⟩ := fd_nd h1
    refine ⟨List.nodup_cons.mpr ⟨h2, g1⟩, fun w hw => ?_, fun w hw => ?_⟩
    · rcases List.mem_cons.mp hw with q | q
      · subst q
        exact ⟨h3, h4⟩
      · exact g2 w q
    · rcases List.mem_cons.mp hw with q | q
      · subst q
        rcases h5 with h5 | ⟨-, i, h6, h7, -⟩
        · exact Or.inl h5
        · exact Or.inr ⟨i, h7.1, h6⟩
      · exact g3 w q
end
def rf_kF (R R2 : rf_R) : Prop := (∀ k, k ≠ 36 → k ≠ 38 → R2.1 k = R.1 k) ∧ R2.2 = R.2
theorem rf_kF.rf {R : rf_R} : rf_kF R R := ⟨fun _ _ _ => rfl, rfl⟩
theorem rf_kF.tr {R R2 R3 : rf_R} (a : rf_kF R R2) (b : rf_kF R2 R3) : rf_kF R R3 := ⟨fun k h g => (b.1 k h g).trans (a.1 k h g), b.2.trans a.2⟩
theorem rf_kF.A {R : rf_R} {k : Nat} {f : Nat → Int32} (h : k = 36 ∨ k = 38) : rf_kF R (rf_sA R k f) := ⟨fun j h1 h2 => if_neg (by omega), rfl⟩
theorem rf_kF.J {R R2 : rf_R} (a : rf_kF R R2) : rf_J R R2 := ⟨a.1 0 (by decide) (by decide), a.1 1 (by decide) (by decide), fun k _ => by rw [a.2], fun k _ => by rw [a.2], by rw [a.1 28 (by decide) (by decide)]⟩
theorem rf_kF.HG {R R2 : rf_R} (a : rf_kF R R2) {H : List hA} {ρ : Nat → Int64} (g : rf_HG R H ρ) : rf_HG R2 H ρ := ⟨by rw [a.2]; exact g.1, fun i hi => by rw [a.1 30 (by decide) (by decide), a.1 32 (by decide) (by decide), a.2]; exact g.2.1 i hi, fun v hv => by rw [a.1 31 (by decide) (by decide), a.1 34 (by decide) (by decide)]; exact g.2.2 v hv⟩
/-- what finds leaves and answers -/
def fd_post (R : rf_R) (F : Nat → Option Int) (H : List hA) (ρ : Nat → Int64) (v : Int32) (R2 : rf_R) : Prop := rf_kF R R2 ∧ ((v = 1 ∧ ∃ l, bp F H ρ (R2.1 36) 2881 l ∧ (l.map (fun i => (H.getD i hd).2.1)).Nodup) ∨ (v = 0 ∧ ∃ V : List Nat, 2880 ∈ V ∧ 2881 ∉ V ∧ (∀ v, v ∈ V → v < 2882 ∧ ∃ x, F v = some x) ∧ ∀ i, fd_ok F H ρ i → (H.getD i hd).1 ∈ V → (H.getD i hd).2.1 ∈ V))
def fd_X (r : Nat) (R : rf_R) (F : Nat → Option Int) (H : List hA) (ρ : Nat → Int64) (pc : Nat) (ls : List Value) (R1 : rf_R) : Prop := ∃ v R2, fd_post R F H ρ v R2 ∧ ∀ h, rf_At r R1 h → rf_G r 201 pc ls [] h (some (.int v)) R2
def fd_I (R1 : rf_R) (F : Nat → Option Int) (H : List hA) (ρ : Nat → Int64) (V : List Nat) : Prop := (∀ j, j < V.length → R1.1 38 j = nI (V.reverse.getD j 0)) ∧ (∀ v, v < 2882 → v ∉ V → R1.1 36 v = -1) ∧ fd_tr F H ρ (R1.1 36) V ∧ 2881 ∉ V ∧ 2880 ∈ V
theorem rc_find_in (r : Nat) (R : rf_R) (F : Nat → Option Int) (H : List hA) (ρ : Nat → Int64) (wf : sp_wf H) (g : rf_HG R H ρ) (hF : ∀ v, v < 2882 → R.2.1 35 v = sp_rep (F v)) (sm : ∀ v x, F v = some x → -2 ^ 45 ≤ x ∧ x ≤ 2 ^ 45) (k : Nat) (hk : k < 2882) (a : Nat) (ha : a < 2882) :
    ∀ (l : List Nat) (x : Int32) (V : List Nat) (R1 : rf_R) (u5 : Value), (∀ i, i ∈ l → i ∈ hg_adj H a) → a ∈ V → rf_kF R R1 → fd_I R1 F H ρ V → (∀ i, i ∈ hg_adj H a → i ∈ l ∨ (fd_ok F H ρ i → (H.getD i hd).2.1 ∈ V)) → ch (R.1 31) x l →
    (∀ V2 R2 x2 u5, V2.length ≤ 2882 → (∃ W, V2 = W ++ V) → rf_kF R R2 → fd_I R2 F H ρ V2 → (∀ i, i ∈ hg_adj H a → fd_ok F H ρ i → (H.getD i hd).2.1 ∈ V2) → fd_X r R F H ρ 172 [.ref r, .int (nI V2.length), .int (nI k), .int (nI a), .int x2, u5] R2) →
    fd_X r R F H ρ 55 [.ref r, .int (nI V.length), .int (nI k), .int (nI a), .int x, u5] R1
  | [], x, V, R1, u5, _, haV, kF, I, hd1, hc, K => by
    have hV : V.length ≤ 2882 := sp_len 2882 V (fd_nd I.2.2.1).1 (fun v hv => ((fd_nd I.2.2.1).2.1 v hv).1)
    obtain ⟨v, R2, f, gg⟩ := K V R1 x u5 hV ⟨[], rfl⟩ kF I (fun i hi => (hd1 i hi).resolve_left (by simp))
    refine ⟨v, R2, f, fun h H => ?_⟩
    refine rf_G.step (pc' := 57) (st' := [_]) rfl rfl ?_
    refine rf_G.step (pc' := 58) (st' := [_, _]) rfl rfl ?_
    refine rf_G.bc rfl (jx_br_eq _ _) (fun _ => ?_) (fun zq => absurd (hc) zq)
    exact gg h H
  | i :: l, x, V, R1, u5, hl, haV, kF, I, hd1, hc, K => by
    obtain ⟨hx, hc2⟩ := hc
    subst hx
    obtain ⟨hi, hia⟩ := hg_mem.mp (hl i (List.mem_cons_self ..))
    obtain ⟨w1, w2, w3, w4⟩ := wf.2 i hi
    have hlen := wf.1
    obtain ⟨t1, t2, t3⟩ := (kF.HG g).2.1 i hi
    have e31 : R1.1 31 = R.1 31 := kF.1 31 (by decide) (by decide)
    have e35 : R1.2.1 35 = R.2.1 35 := by rw [kF.2]
    obtain ⟨nd1, nd2, nd3⟩ := fd_nd I.2.2.1
    obtain ⟨ax, hax⟩ := (nd2 a haV).2
    have sx := sm a ax hax
    have fa : R1.2.1 35 a = sp_rep (some ax) := by rw [e35, hF a ha, hax]
    have fb : R1.2.1 35 (H.getD i hd).2.1 = sp_rep (F (H.getD i hd).2.1) := by rw [e35, hF _ w2]
    have esum : sp_rep (some ax) + (H.getD i hd).2.2.toInt64 = sp_rep (some (ax + (H.getD i hd).2.2.toInt)) := sp_rep_add (by omega)
    have etight : sp_rep (some (ax + (H.getD i hd).2.2.toInt)) = sp_rep (F (H.getD i hd).2.1) ↔ fd_t F H i := by
      unfold fd_t
      rw [hia]
      constructor
      · intro q
        refine ⟨ax, hax, ?_⟩
        have q2 := congrArg Int64.toInt q
        rw [sp_rep_some (by omega)] at q2
        cases hb : F (H.getD i hd).2.1 with
        | none =>
          rw [hb, sp_rep_none] at q2
          omega
        | some z =>
          have := sm _ z hb
          rw [hb, sp_rep_some (by omega)] at q2
          rw [q2]
      · rintro ⟨y, q1, q2⟩
        rw [hax] at q1
        obtain rfl := Option.some.inj q1
        rw [q2]
    -- an arc that leads nowhere new
    have skip : (fd_ok F H ρ i → (H.getD i hd).2.1 ∈ V) → fd_X r R F H ρ 160 [.ref r, .int (nI V.length), .int (nI k), .int (nI a), .int (nI i), .int (nI (H.getD i hd).2.1)] R1 := by
      intro q
      obtain ⟨v, R2, f, gg⟩ := rc_find_in r R F H ρ wf g hF sm k hk a ha l (R.1 31 i) V R1 (.int (nI (H.getD i hd).2.1)) (fun j hj => hl j (List.mem_cons_of_mem _ hj)) haV kF I (fun j hj => by
        rcases hd1 j hj with w | w
        · rcases List.mem_cons.mp w with w | w
          · subst w
            exact Or.inr q
          · exact Or.inl w
        · exact Or.inr w) hc2 K
      refine ⟨v, R2, f, fun h H => ?_⟩
      refine rf_G.step (pc' := 161) (st' := [_]) rfl rfl ?_
      refine rf_G.get H rfl rfl ?_
      refine rf_G.step (pc' := 166) (st' := [_, _]) rfl rfl ?_
      refine rf_G.iald H 31 14 48000 (by decide) rfl (rf_ix (by omega) (by decide)) ?_
      rw [nI_clamp (by omega), e31]
      refine rf_G.step (pc' := 169) (ls' := [_, _, _, _, _, _]) (st' := []) rfl rfl ?_
      refine rf_G.step (pc' := 55) (st' := []) rfl rfl ?_
      exact gg h H
    -- up to the look at the room
    have head : ∀ v R2, (∀ h, rf_At r R1 h → rf_G r 201 79 [.ref r, .int (nI V.length), .int (nI k), .int (nI a), .int (nI i), .int (nI (H.getD i hd).2.1)] [.int (lg_cmp (ρ i) 0)] h (some (.int v)) R2) → ∀ h, rf_At r R1 h → rf_G r 201 55 [.ref r, .int (nI V.length), .int (nI k), .int (nI a), .int (nI i), u5] [] h (some (.int v)) R2 := by
      intro v R2 gg h H
      refine rf_G.step (pc' := 57) (st' := [_]) rfl rfl ?_
      refine rf_G.step (pc' := 58) (st' := [_, _]) rfl rfl ?_
      refine rf_G.bc rfl (jx_br_eq _ _) (fun zq => absurd zq (fun q => by have := nI_pos (show i < 2 ^ 31 by omega); rw [q] at this; exact this (by decide))) (fun _ => ?_)
      refine rf_G.step (pc' := 62) (st' := [_]) rfl rfl ?_
      refine rf_G.get H rfl rfl ?_
      refine rf_G.step (pc' := 67) (st' := [_, _]) rfl rfl ?_
      refine rf_G.iald H 30 13 48000 (by decide) rfl (rf_ix (by omega) (by decide)) ?_
      rw [nI_clamp (by omega), t1]
      refine rf_G.step (pc' := 70) (ls' := [_, _, _, _, _, _]) (st' := []) rfl rfl ?_
      refine rf_G.step (pc' := 71) (st' := [_]) rfl rfl ?_
      refine rf_G.get H rfl rfl ?_
      refine rf_G.step (pc' := 76) (st' := [_, _]) rfl rfl ?_
      refine rf_G.lald H 33 16 48000 (by decide) rfl (rf_ix (by omega) (by decide)) ?_
      rw [nI_clamp (by omega), t3]
      refine rf_G.step (pc' := 78) (st' := [_, _]) rfl rfl ?_
      refine rf_G.step (pc' := 79) (st' := [_]) rfl rfl ?_
      exact gg h H
    by_cases z1 : ρ i = 0
    · obtain ⟨v, R2, f, gg⟩ := skip (fun q => absurd z1 q.2.1)
      refine ⟨v, R2, f, head v R2 (fun h H => ?_)⟩
      refine rf_G.br rfl (jx_br_eq _ _) (fun _ => ?_) (fun zq => absurd ((lg_cmp_eq0 _ _).mpr z1) zq)
      exact gg h H
    by_cases z2 : (H.getD i hd).2.1 = 2880
    · obtain ⟨v, R2, f, gg⟩ := skip (fun _ => by rw [z2]; exact I.2.2.2.2)
      refine ⟨v, R2, f, head v R2 (fun h H => ?_)⟩
      refine rf_G.br rfl (jx_br_eq _ _) (fun zq => absurd zq (fun q => z1 ((lg_cmp_eq0 _ _).mp q))) (fun _ => ?_)
      refine rf_G.step (pc' := 84) (st' := [_]) rfl rfl ?_
      refine rf_G.step (pc' := 87) (st' := [_, _]) rfl rfl ?_
      refine rf_G.bc rfl (jx_br_eq _ _) (fun _ => ?_) (fun zq => absurd (congrArg nI z2) zq)
      exact gg h H
    have z2n : ¬ nI (H.getD i hd).2.1 = 2880 := fun q => z2 ((nI_inj (by omega) (by decide)).mp q)
    by_cases z3 : (H.getD i hd).2.1 ∈ V
    · obtain ⟨v, R2, f, gg⟩ := skip (fun _ => z3)
      have z4 : ¬ R1.1 36 (H.getD i hd).2.1 = -1 := by
        rcases nd3 _ z3 with q | ⟨j, q1, q2⟩
        · exact absurd q z2
        · rw [q2]
          intro q3
          have := nI_pos (show j < 2 ^ 31 by omega)
          rw [q3] at this
          exact this (by decide)
      refine ⟨v, R2, f, head v R2 (fun h H => ?_)⟩
      refine rf_G.br rfl (jx_br_eq _ _) (fun zq => absurd zq (fun q => z1 ((lg_cmp_eq0 _ _).mp q))) (fun _ => ?_)
      refine rf_G.step (pc' := 84) (st' := [_]) rfl rfl ?_
      refine rf_G.step (pc' := 87) (st' := [_, _]) rfl rfl ?_
      refine rf_G.bc rfl (jx_br_eq _ _) (fun zq => absurd zq (z2n)) (fun _ => ?_)
      refine rf_G.step (pc' := 91) (st' := [_]) rfl rfl ?_
      refine rf_G.get H rfl rfl ?_
      refine rf_G.step (pc' := 96) (st' := [_, _]) rfl rfl ?_
      refine rf_G.iald H 36 19 2882 (by decide) rfl (rf_ix (by omega) (by decide)) ?_
      refine rf_G.step (pc' := 98) (st' := [_, _]) rfl rfl ?_
      rw [nI_clamp (by omega)]
      refine rf_G.bcn rfl (fun _ => ?_) (fun zq => absurd zq (z4))
      exact gg h H
    have z4 := I.2.1 _ w2 z3
    have mid : ∀ v R2, (∀ h, rf_At r R1 h → rf_G r 201 124 [.ref r, .int (nI V.length), .int (nI k), .int (nI a), .int (nI i), .int (nI (H.getD i hd).2.1)] [.int (lg_cmp (sp_rep (some (ax + (H.getD i hd).2.2.toInt))) (sp_rep (F (H.getD i hd).2.1)))] h (some (.int v)) R2) → ∀ h, rf_At r R1 h → rf_G r 201 55 [.ref r, .int (nI V.length), .int (nI k), .int (nI a), .int (nI i), u5] [] h (some (.int v)) R2 := by
      intro v R2 gg
      refine head v R2 (fun h H => ?_)
      refine rf_G.br rfl (jx_br_eq _ _) (fun zq => absurd zq (fun q => z1 ((lg_cmp_eq0 _ _).mp q))) (fun _ => ?_)
      refine rf_G.step (pc' := 84) (st' := [_]) rfl rfl ?_
      refine rf_G.step (pc' := 87) (st' := [_, _]) rfl rfl ?_
      refine rf_G.bc rfl (jx_br_eq _ _) (fun zq => absurd zq (z2n)) (fun _ => ?_)
      refine rf_G.step (pc' := 91) (st' := [_]) rfl rfl ?_
      refine rf_G.get H rfl rfl ?_
      refine rf_G.step (pc' := 96) (st' := [_, _]) rfl rfl ?_
      refine rf_G.iald H 36 19 2882 (by decide) rfl (rf_ix (by omega) (by decide)) ?_
      refine rf_G.step (pc' := 98) (st' := [_, _]) rfl rfl ?_
      rw [nI_clamp (by omega), z4]
      refine rf_G.bcn rfl (fun zq => absurd (rfl) zq) (fun _ => ?_)
      refine rf_G.step (pc' := 102) (st' := [_]) rfl rfl ?_
      refine rf_G.get H rfl rfl ?_
      refine rf_G.step (pc' := 106) (st' := [_, _]) rfl rfl ?_
      refine rf_G.lald H 35 18 2882 (by decide) rfl (rf_ix (by omega) (by decide)) ?_
      refine rf_G.step (pc' := 108) (st' := [_, _]) rfl rfl ?_
      refine rf_G.get H rfl rfl ?_
      refine rf_G.step (pc' := 113) (st' := [_, _, _]) rfl rfl ?_
      refine rf_G.iald H 32 15 48000 (by decide) rfl (rf_ix (by omega) (by decide)) ?_
      rw [nI_clamp (by omega), nI_clamp (by omega), fa, t2]
      refine rf_G.step (pc' := 115) (st' := [_, _]) rfl rfl ?_
      refine rf_G.step (pc' := 116) (st' := [_]) rfl rfl ?_
      rw [esum]
      refine rf_G.step (pc' := 117) (st' := [_, _]) rfl rfl ?_
      refine rf_G.get H rfl rfl ?_
      refine rf_G.step (pc' := 122) (st' := [_, _, _]) rfl rfl ?_
      refine rf_G.lald H 35 18 2882 (by decide) rfl (rf_ix (by omega) (by decide)) ?_
      rw [nI_clamp (by omega), fb]
      refine rf_G.step (pc' := 124) (st' := [_]) rfl rfl ?_
      exact gg h H
    by_cases z5 : fd_t F H i
    · have okI : fd_ok F H ρ i := ⟨hi, z1, z5⟩
      have cbV : ∀ v, v ∈ V → R1.1 36 v = upd (R1.1 36) (H.getD i hd).2.1 (nI i) v := fun v hv => (rf_up_ne (j := v) (i := (H.getD i hd).2.1) (fun q => z3 (by rw [← q]; exact hv))).symm
      by_cases z6 : (H.getD i hd).2.1 = 2881
      · obtain ⟨p, p1, p2, p3⟩ := fd_path I.2.2.1 a haV
        refine ⟨1, rf_sA R1 36 (upd (R1.1 36) (H.getD i hd).2.1 (nI i)), ⟨kF.tr (rf_kF.A (Or.inl rfl)), Or.inl ⟨rfl, i :: p, ?_, ?_⟩⟩, mid _ _ (fun h H => ?_)⟩
        · rw [rf_sA_at]
          refine ⟨by decide, by rw [← z6]; exact rf_up_eq, okI, z6, ?_⟩
          rw [hia]
          exact bp_congr cbV haV (fun j hj => (p2 j hj).2) p1
        · rw [List.map_cons]
          refine List.nodup_cons.mpr ⟨fun q => ?_, p3⟩
          obtain ⟨j, hj, e⟩ := List.mem_map.mp q
          have e : (H.getD j hd).2.1 = (H.getD i hd).2.1 := e
          exact z3 (e ▸ (p2 j hj).1)
        · refine rf_G.br rfl (jx_br_eq _ _) (fun _ => ?_) (fun zq => absurd ((lg_cmp_eq0 _ _).mpr (etight.mpr z5)) zq)
          refine rf_G.step (pc' := 131) (st' := [_]) rfl rfl ?_
          refine rf_G.get H rfl rfl ?_
          refine rf_G.step (pc' := 136) (st' := [_, _]) rfl rfl ?_
          refine rf_G.step (pc' := 138) (st' := [_, _, _]) rfl rfl ?_
          refine rf_G.iast H 36 19 2882 (by decide) rfl (rf_ix (by omega) (by decide)) (fun h H => ?_)
          rw [nI_clamp (by omega)] at H
          refine rf_G.step (pc' := 141) (st' := [_]) rfl rfl ?_
          refine rf_G.step (pc' := 144) (st' := [_, _]) rfl rfl ?_
          refine rf_G.bcn rfl (fun zq => absurd (congrArg nI z6) zq) (fun _ => ?_)
          refine rf_G.step (pc' := 148) (st' := [_]) rfl rfl ?_
          exact rf_G.ret H rfl rfl
      · have bx : ∃ y, F (H.getD i hd).2.1 = some y := by
          obtain ⟨y, -, q⟩ := z5
          exact ⟨_, q⟩
        have tr2 : fd_tr F H ρ (upd (R1.1 36) (H.getD i hd).2.1 (nI i)) ((H.getD i hd).2.1 :: V) := ⟨fd_tr_congr cbV I.2.2.1, z3, w2, bx, Or.inr ⟨z2, i, rf_up_eq, okI, rfl, by rw [hia]; exact haV⟩⟩
        have hV : ((H.getD i hd).2.1 :: V).length ≤ 2882 := sp_len 2882 _ (fd_nd tr2).1 (fun v hv => ((fd_nd tr2).2.1 v hv).1)
        rw [List.length_cons] at hV
        obtain ⟨v, R2, f, gg⟩ := rc_find_in r R F H ρ wf g hF sm k hk a ha l (R.1 31 i) ((H.getD i hd).2.1 :: V) (rf_sA (rf_sA R1 36 (upd (R1.1 36) (H.getD i hd).2.1 (nI i))) 38 (upd (R1.1 38) V.length (nI (H.getD i hd).2.1))) (.int (nI (H.getD i hd).2.1)) (fun j hj => hl j (List.mem_cons_of_mem _ hj)) (List.mem_cons_of_mem _ haV) ((kF.tr (rf_kF.A (Or.inl rfl))).tr (rf_kF.A (Or.inr rfl))) ⟨fun j hj => by
            rw [List.length_cons] at hj
            show upd (R1.1 38) V.length (nI (H.getD i hd).2.1) j = _
            rw [List.reverse_cons]
            unfold upd
            by_cases e : j = V.length
            · rw [if_pos e, e]
              simp [List.getD_eq_getElem?_getD]
            · have hj2 : j < V.length := by omega
              rw [if_neg e, I.1 j hj2]
              simp [List.getD_eq_getElem?_getD, List.getElem?_append, hj2], fun w hw hwV => by
            show upd (R1.1 36) (H.getD i hd).2.1 (nI i) w = -1
            rw [rf_up_ne (fun q => hwV (by rw [q]; exact List.mem_cons_self ..))]
            exact I.2.1 w hw (fun q => hwV (List.mem_cons_of_mem _ q)), tr2, fun q => by
            rcases List.mem_cons.mp q with q | q
            · exact z6 q.symm
            · exact I.2.2.2.1 q, List.mem_cons_of_mem _ I.2.2.2.2⟩ (fun j hj => by
            rcases hd1 j hj with w | w
            · rcases List.mem_cons.mp w with w | w
              · subst w
                exact Or.inr (fun _ => List.mem_cons_self ..)
              · exact Or.inl w
            · exact Or.inr (fun q => List.mem_cons_of_mem _ (w q))) hc2 (fun V2 R2 x2 u5 h1 h2 h3 h4 h5 => K V2 R2 x2 u5 h1 (by
            obtain ⟨W, rfl⟩ := h2
            exact ⟨W ++ [(H.getD i hd).2.1], by simp⟩) h3 h4 h5)
        refine ⟨v, R2, f, mid _ _ (fun h H => ?_)⟩
        refine rf_G.br rfl (jx_br_eq _ _) (fun _ => ?_) (fun zq => absurd ((lg_cmp_eq0 _ _).mpr (etight.mpr z5)) zq)
        refine rf_G.step (pc' := 131) (st' := [_]) rfl rfl ?_
        refine rf_G.get H rfl rfl ?_
        refine rf_G.step (pc' := 136) (st' := [_, _]) rfl rfl ?_
        refine rf_G.step (pc' := 138) (st' := [_, _, _]) rfl rfl ?_
        refine rf_G.iast H 36 19 2882 (by decide) rfl (rf_ix (by omega) (by decide)) (fun h H => ?_)
        rw [nI_clamp (by omega)] at H
        refine rf_G.step (pc' := 141) (st' := [_]) rfl rfl ?_
        refine rf_G.step (pc' := 144) (st' := [_, _]) rfl rfl ?_
        refine rf_G.bcn rfl (fun _ => ?_) (fun zq => absurd zq (fun q => z6 ((nI_inj (by omega) (by decide)).mp q)))
        refine rf_G.step (pc' := 150) (st' := [_]) rfl rfl ?_
        refine rf_G.get H rfl rfl ?_
        refine rf_G.step (pc' := 154) (st' := [_, _]) rfl rfl ?_
        refine rf_G.step (pc' := 156) (st' := [_, _, _]) rfl rfl ?_
        refine rf_G.iast H 38 21 2882 (by decide) rfl (rf_ix (by omega) (by decide)) (fun h H => ?_)
        rw [nI_clamp (by omega)] at H
        refine rf_G.step (pc' := 160) (ls' := [_, _, _, _, _, _]) (st' := []) rfl rfl ?_
        rw [nI_1]
        refine rf_G.step (pc' := 161) (st' := [_]) rfl rfl ?_
        refine rf_G.get H rfl rfl ?_
        refine rf_G.step (pc' := 166) (st' := [_, _]) rfl rfl ?_
        refine rf_G.iald H 31 14 48000 (by decide) rfl (rf_ix (by omega) (by decide)) ?_
        rw [nI_clamp (by omega), show ∀ f f2, (rf_sA (rf_sA R1 36 f) 38 f2).1 31 i = R.1 31 i from fun _ _ => congrFun e31 i]
        refine rf_G.step (pc' := 169) (ls' := [_, _, _, _, _, _]) (st' := []) rfl rfl ?_
        refine rf_G.step (pc' := 55) (st' := []) rfl rfl ?_
        exact gg h H
    · obtain ⟨v, R2, f, gg⟩ := skip (fun q => absurd q.2.2 z5)
      refine ⟨v, R2, f, mid _ _ (fun h H => ?_)⟩
      refine rf_G.br rfl (jx_br_eq _ _) (fun zq => absurd zq (fun q => z5 (etight.mp ((lg_cmp_eq0 _ _).mp q)))) (fun _ => ?_)
      refine rf_G.step (pc' := 160) (st' := []) rfl rfl ?_
      exact gg h H
