/-! the reference: reaches -/
def sp_one (H : List hA) (ρ : Nat → Int64) (i : Nat) : Option (Nat × Int) := if ρ i = 0 then none else some ((H.getD i hd).2.1, (H.getD i hd).2.2.toInt)
def sp_adj (H : List hA) (ρ : Nat → Int64) (a : Nat) : List (Nat × Int) := (hg_adj H a).filterMap (sp_one H ρ)
def sp_wf (H : List hA) : Prop := H.length ≤ 48000 ∧ ∀ i, i < H.length → (H.getD i hd).1 < 2882 ∧ (H.getD i hd).2.1 < 2882 ∧ -1000000 ≤ (H.getD i hd).2.2.toInt ∧ (H.getD i hd).2.2.toInt ≤ 1000000
def sp_pot (H : List hA) (ρ : Nat → Int64) (p : Nat → Int) : Prop := ∀ i, i < H.length → ¬ ρ i = 0 → p (H.getD i hd).2.1 ≤ p (H.getD i hd).1 + (H.getD i hd).2.2.toInt
theorem hg_mem {H : List hA} {a i : Nat} : i ∈ hg_adj H a ↔ i < H.length ∧ (H.getD i hd).1 = a := by
  unfold hg_adj
  rw [List.mem_reverse, List.mem_filter, List.mem_range, decide_eq_true_iff]
theorem sp_adj_mem {H : List hA} {ρ : Nat → Int64} {a : Nat} {e : Nat × Int} : e ∈ sp_adj H ρ a ↔ ∃ i, i < H.length ∧ (H.getD i hd).1 = a ∧ ¬ ρ i = 0 ∧ e = ((H.getD i hd).2.1, (H.getD i hd).2.2.toInt) := by
  unfold sp_adj
  rw [List.mem_filterMap]
  constructor
  · rintro ⟨i, h1, h2⟩
    obtain ⟨h3, h4⟩ := hg_mem.mp h1
    unfold sp_one at h2
    by_cases z : ρ i = 0
    · rw [if_pos z] at h2
      exact absurd h2 (by simp)
    · rw [if_neg z] at h2
      exact ⟨i, h3, h4, z, (Option.some.inj h2).symm⟩
  · rintro ⟨i, h1, h2, h3, rfl⟩
    exact ⟨i, hg_mem.mpr ⟨h1, h2⟩, if_neg h3⟩
theorem sp_adj_ok {H : List hA} {ρ : Nat → Int64} {p : Nat → Int} (wf : sp_wf H) (po : sp_pot H ρ p) {s : Nat} (hs : s < 2882) : sp_ok (sp_adj H ρ) 2882 s p := by
  refine ⟨hs, fun a b c _ h => ?_⟩
  obtain ⟨i, h1, h2, h3, h4⟩ := sp_adj_mem.mp h
  obtain ⟨rfl, rfl⟩ := Prod.mk.inj h4
  have := po i h1 h3
  rw [h2] at this
  exact ⟨(wf.2 i h1).2.1, this⟩
def sp_rep : Option Int → Int64
  | none => 1125899906842624
  | some x => Int64.ofInt x
theorem sp_rep_some {x : Int} (h : -2 ^ 50 ≤ x ∧ x ≤ 2 ^ 50) : (sp_rep (some x)).toInt = x := by
  show (Int64.ofInt x).toInt = x
  rw [Int64.toInt_ofInt, show Int64.size = 2 ^ 64 from rfl]
  exact Int.bmod_eq_of_le (by omega) (by omega)
theorem sp_rep_none : (sp_rep none).toInt = 1125899906842624 := by decide
theorem sp_rep_add {x : Int} (h : -2 ^ 49 ≤ x ∧ x ≤ 2 ^ 49) {c : Int32} : sp_rep (some x) + c.toInt64 = sp_rep (some (x + c.toInt)) := by
  have h1 := Int32.le_toInt c
  have h2 := Int32.toInt_lt c
  apply Int64.toInt_inj.mp
  rw [Int64.toInt_add, sp_rep_some (by omega), sp_rep_some (by omega), rf_w]
  exact Int.bmod_eq_of_le (by omega) (by omega)
theorem sp_rep_lt {y : Int} (h : -2 ^ 49 ≤ y ∧ y ≤ 2 ^ 49) {o : Option Int} (ho : ∀ z, o = some z → -2 ^ 49 ≤ z ∧ z ≤ 2 ^ 49) : sp_rep (some y) < sp_rep o ↔ sp_lt y o = true := by
  rw [Int64.lt_iff_toInt_lt, sp_rep_some (by omega)]
  cases o with
  | none =>
    rw [sp_rep_none]
    exact ⟨fun _ => rfl, fun _ => by omega⟩
  | some z =>
    have := ho z rfl
    rw [sp_rep_some (by omega)]
    exact ⟨fun q => decide_eq_true q, fun q => of_decide_eq_true q⟩
/-- labels and queue, as they stand in the rows -/
def rf_SP (R : rf_R) (st : sp_S) (first : Nat) : Prop := first < 2882 ∧ (∀ v, v < 2882 → R.2.1 35 v = sp_rep (st.1 v) ∧ R.1 37 v = if v ∈ st.2 then 1 else 0) ∧ ∀ j, j < st.2.length → R.1 38 ((first + j) % 2882) = nI (st.2.getD j 0)
def rf_kS (R R2 : rf_R) : Prop := (∀ k, (k < 37 ∨ 39 ≤ k) → R2.1 k = R.1 k) ∧ (∀ k, k ≠ 35 → R2.2.1 k = R.2.1 k) ∧ R2.2.2 = R.2.2
theorem rf_kS.rf {R : rf_R} : rf_kS R R := ⟨fun _ _ => rfl, fun _ _ => rfl, rfl⟩
theorem rf_kS.tr {R R2 R3 : rf_R} (a : rf_kS R R2) (b : rf_kS R2 R3) : rf_kS R R3 := ⟨fun k h => (b.1 k h).trans (a.1 k h), fun k h => (b.2.1 k h).trans (a.2.1 k h), b.2.2.trans a.2.2⟩
theorem rf_kS.A {R : rf_R} {k : Nat} {f : Nat → Int32} (h : 37 ≤ k ∧ k < 39) : rf_kS R (rf_sA R k f) := ⟨fun j hj => if_neg (by omega), fun _ _ => rfl, rfl⟩
theorem rf_kS.B {R : rf_R} {f : Nat → Int64} : rf_kS R (rf_sB R 35 f) := ⟨fun _ _ => rfl, fun j hj => if_neg hj, rfl⟩
theorem rf_kS.J {R R2 : rf_R} (a : rf_kS R R2) : rf_J R R2 := ⟨a.1 0 (by decide), a.1 1 (by decide), fun k _ => by rw [a.2.2], fun k _ => by rw [a.2.2], by rw [a.1 28 (by decide)]⟩
theorem rf_kS.HG {R R2 : rf_R} (a : rf_kS R R2) {H : List hA} {ρ : Nat → Int64} (g : rf_HG R H ρ) : rf_HG R2 H ρ := ⟨by rw [a.2.2]; exact g.1, fun i hi => by rw [a.1 30 (by decide), a.1 32 (by decide), a.2.1 33 (by decide)]; exact g.2.1 i hi, fun v hv => by rw [a.1 31 (by decide), a.1 34 (by decide)]; exact g.2.2 v hv⟩
/-- small labels -/
def sp_small (st : sp_S) : Prop := ∀ v x, st.1 v = some x → -2 ^ 45 ≤ x ∧ x ≤ 2 ^ 45
theorem sp_small_of {H : List hA} {ρ : Nat → Int64} {p : Nat → Int} (wf : sp_wf H) (po : sp_pot H ρ p) {s : Nat} (hs : s < 2882) {st : sp_S} (i2 : ∀ v x, st.1 v = some x → v < 2882 ∧ ∃ k, sp_W (sp_adj H ρ) s k v x) (u : sp_U 2882 1000000 st) : sp_small st := by
  intro v x hx
  obtain ⟨h1, k, hk⟩ := i2 v x hx
  have h2 := sp_low (sp_adj_ok wf po hs) (C := 1000000) (fun a b c h => by
    obtain ⟨i, g1, g2, g3, g4⟩ := sp_adj_mem.mp h
    obtain ⟨rfl, rfl⟩ := Prod.mk.inj g4
    exact (wf.2 i g1).2.2.1) hk
  have h3 := u v x hx
  have h4 := sp_cnt_le st.1 2882
  have h7 : (1000000 : Int) * (sp_cnt st.1 2882 : Int) ≤ 1000000 * 2882 := Int.mul_le_mul_of_nonneg_left (by omega) (by omega)
  omega
theorem rc_reach_in (r : Nat) (R : rf_R) (H : List hA) (ρ : Nat → Int64) (p : Nat → Int) (wf : sp_wf H) (po : sp_pot H ρ p) (g : rf_HG R H ρ) (s : Nat) (hs : s < 2882) (a : Nat) (ha : a < 2882) (Fin : rf_R → Prop) (first : Nat) :
    ∀ (l : List Nat) (x : Int32) (st : sp_S) (R1 : rf_R), (∀ i, i ∈ l → i ∈ hg_adj H a) → rf_kS R R1 → rf_SP R1 st first → sp_I3 (sp_adj H ρ) 2882 s st → (∃ y, st.1 a = some y) → sp_U 2882 1000000 st → (∀ v, v ≠ a → sp_I4 (sp_adj H ρ) st v (sp_adj H ρ v)) → ch (R.1 31) x l →
    (∀ R2 x2, rf_kS R R2 → rf_SP R2 ((l.filterMap (sp_one H ρ)).foldl (sp_rlx a) st) first → ∃ R3, Fin R3 ∧ ∀ h, rf_At r R2 h → rf_G r 200 62 [.ref r, .int (nI first), .int (nI ((l.filterMap (sp_one H ρ)).foldl (sp_rlx a) st).2.length), .int (nI a), .int x2] [] h none R3) →
    ∃ R3, Fin R3 ∧ ∀ h, rf_At r R1 h → rf_G r 200 99 [.ref r, .int (nI first), .int (nI st.2.length), .int (nI a), .int x] [] h none R3
  | [], x, st, R1, _, k, sp, _, _, _, _, hc, K => by
    obtain ⟨R3, f, gg⟩ := K R1 x k sp
    refine ⟨R3, f, fun h H => ?_⟩
    refine rf_G.step (pc' := 101) (st' := [_]) rfl rfl ?_
    refine rf_G.step (pc' := 102) (st' := [_, _]) rfl rfl ?_
    refine rf_G.bc rfl (jx_br_eq _ _) (fun _ => ?_) (fun zq => absurd (hc) zq)
    refine rf_G.step (pc' := 62) (st' := []) rfl rfl ?_
    exact gg h H
  | i :: l, x, st, R1, hl, k, sp, i3, hf, u, i4, hc, K => by
    obtain ⟨hx, hc2⟩ := hc
    subst hx
    have him := hl i (List.mem_cons_self ..)
    obtain ⟨hi, hia⟩ := hg_mem.mp him
    obtain ⟨w1, w2, w3, w4⟩ := wf.2 i hi
    have hlen := wf.1
    have g1 := k.HG g
    obtain ⟨t1, t2, t3⟩ := g1.2.1 i hi
    have rcc := fun st R1 => rc_reach_in r R H ρ p wf po g s hs a ha Fin first l (R.1 31 i) st R1 (fun j hj => hl j (List.mem_cons_of_mem _ hj))
    have sm := sp_small_of wf po hs i3.2.1 u
    have e31 : R1.1 31 = R.1 31 := k.1 31 (by decide)
    -- the next arc
    have next : ∀ R2 R3 (m : Int32), R2.1 31 = R.1 31 → (∀ h, rf_At r R2 h → rf_G r 200 99 [.ref r, .int (nI first), .int m, .int (nI a), .int (R.1 31 i)] [] h none R3) → ∀ h, rf_At r R2 h → rf_G r 200 231 [.ref r, .int (nI first), .int m, .int (nI a), .int (nI i)] [] h none R3 := by
      intro R2 R3 m e gg h H
      refine rf_G.step (pc' := 232) (st' := [_]) rfl rfl ?_
      refine rf_G.get H rfl rfl ?_
      refine rf_G.step (pc' := 237) (st' := [_, _]) rfl rfl ?_
      refine rf_G.iald H 31 14 48000 (by decide) rfl (rf_ix (by omega) (by decide)) ?_
      rw [nI_clamp (by omega), e]
      refine rf_G.step (pc' := 240) (ls' := [_, _, _, _, _]) (st' := []) rfl rfl ?_
      refine rf_G.step (pc' := 99) (st' := []) rfl rfl ?_
      exact gg h H
    by_cases z : ρ i = 0
    · have eo : (i :: l).filterMap (sp_one H ρ) = l.filterMap (sp_one H ρ) := by
        rw [List.filterMap_cons, show sp_one H ρ i = none from if_pos z]
      rw [eo] at K
      obtain ⟨R3, f, gg⟩ := rcc st R1 k sp i3 hf u i4 hc2 K
      refine ⟨R3, f, fun h H => ?_⟩
      refine rf_G.step (pc' := 101) (st' := [_]) rfl rfl ?_
      refine rf_G.step (pc' := 102) (st' := [_, _]) rfl rfl ?_
      refine rf_G.bc rfl (jx_br_eq _ _) (fun zq => absurd zq (fun q => by have := nI_pos (show i < 2 ^ 31 by omega); rw [q] at this; exact this (by decide))) (fun _ => ?_)
      refine rf_G.step (pc' := 106) (st' := [_]) rfl rfl ?_
      refine rf_G.get H rfl rfl ?_
      refine rf_G.step (pc' := 111) (st' := [_, _]) rfl rfl ?_
      refine rf_G.lald H 33 16 48000 (by decide) rfl (rf_ix (by omega) (by decide)) ?_
      rw [nI_clamp (by omega), t3, z]
      refine rf_G.step (pc' := 113) (st' := [_, _]) rfl rfl ?_
      refine rf_G.step (pc' := 114) (st' := [_]) rfl rfl ?_
      refine rf_G.br rfl (jx_br_eq _ _) (fun _ => ?_) (fun zq => absurd (by decide) zq)
      exact next R1 R3 _ e31 gg h H
    · have eo : (i :: l).filterMap (sp_one H ρ) = ((H.getD i hd).2.1, (H.getD i hd).2.2.toInt) :: l.filterMap (sp_one H ρ) := by
        rw [List.filterMap_cons, show sp_one H ρ i = some ((H.getD i hd).2.1, (H.getD i hd).2.2.toInt) from if_neg z]
      rw [eo, List.foldl_cons] at K
      have hadj : ((H.getD i hd).2.1, (H.getD i hd).2.2.toInt) ∈ sp_adj H ρ a := sp_adj_mem.mpr ⟨i, hi, hia, z, rfl⟩
      obtain ⟨j3, j4, -, jf⟩ := sp_rlx_ok (sp_adj_ok wf po hs) (l := []) ha hadj hf i3 i4 (fun _ _ _ _ _ q => absurd q (by simp))
      have ju := sp_rlx_U (n := 2882) (C := 1000000) (by decide) (a := a) (e := ((H.getD i hd).2.1, (H.getD i hd).2.2.toInt)) (st := st) w2 w4 u
      generalize hb : (H.getD i hd).2.1 = b at *
      generalize hcost : (H.getD i hd).2.2 = c at *
      obtain ⟨y, hy⟩ := hf
      have sy := sm a y hy
      have fa : R1.2.1 35 a = sp_rep (some y) := by rw [(sp.2.1 a ha).1, hy]
      have fb := (sp.2.1 b w2).1
      have ib := (sp.2.1 b w2).2
      have esum : sp_rep (some y) + c.toInt64 = sp_rep (some (y + c.toInt)) := sp_rep_add (by omega)
      have elt := sp_rep_lt (y := y + c.toInt) (by omega) (o := st.1 b) (fun w hw => by have := sm b w hw; omega)
      have er : sp_rlx a st (b, c.toInt) = if sp_lt (y + c.toInt) (st.1 b) = true then ((fun v => if v = b then some (y + c.toInt) else st.1 v), if b ∈ st.2 then st.2 else st.2 ++ [b]) else st := by
        unfold sp_rlx
        rw [hy]
      -- up to the comparison
      have head : ∀ R3, (∀ h, rf_At r R1 h → rf_G r 200 145 [.ref r, .int (nI first), .int (nI st.2.length), .int (nI a), .int (nI i)] [.int (lg_cmp (sp_rep (some (y + c.toInt))) (sp_rep (st.1 b)))] h none R3) → ∀ h, rf_At r R1 h → rf_G r 200 99 [.ref r, .int (nI first), .int (nI st.2.length), .int (nI a), .int (nI i)] [] h none R3 := by
        intro R3 gg h H
        refine rf_G.step (pc' := 101) (st' := [_]) rfl rfl ?_
        refine rf_G.step (pc' := 102) (st' := [_, _]) rfl rfl ?_
        refine rf_G.bc rfl (jx_br_eq _ _) (fun zq => absurd zq (fun q => by have := nI_pos (show i < 2 ^ 31 by omega); rw [q] at this; exact this (by decide))) (fun _ => ?_)
        refine rf_G.step (pc' := 106) (st' := [_]) rfl rfl ?_
        refine rf_G.get H rfl rfl ?_
        refine rf_G.step (pc' := 111) (st' := [_, _]) rfl rfl ?_
        refine rf_G.lald H 33 16 48000 (by decide) rfl (rf_ix (by omega) (by decide)) ?_
        rw [nI_clamp (by omega), t3]
        refine rf_G.step (pc' := 113) (st' := [_, _]) rfl rfl ?_
        refine rf_G.step (pc' := 114) (st' := [_]) rfl rfl ?_
        refine rf_G.br rfl (jx_br_eq _ _) (fun zq => absurd zq (fun q => z ((lg_cmp_eq0 _ _).mp q))) (fun _ => ?_)
        refine rf_G.step (pc' := 118) (st' := [_]) rfl rfl ?_
        refine rf_G.get H rfl rfl ?_
        refine rf_G.step (pc' := 122) (st' := [_, _]) rfl rfl ?_
        refine rf_G.lald H 35 18 2882 (by decide) rfl (rf_ix (by omega) (by decide)) ?_
        refine rf_G.step (pc' := 124) (st' := [_, _]) rfl rfl ?_
        refine rf_G.get H rfl rfl ?_
        refine rf_G.step (pc' := 129) (st' := [_, _, _]) rfl rfl ?_
        refine rf_G.iald H 32 15 48000 (by decide) rfl (rf_ix (by omega) (by decide)) ?_
        rw [nI_clamp (by omega), nI_clamp (by omega), fa, t2]
        refine rf_G.step (pc' := 131) (st' := [_, _]) rfl rfl ?_
        refine rf_G.step (pc' := 132) (st' := [_]) rfl rfl ?_
        rw [esum]
        refine rf_G.step (pc' := 133) (st' := [_, _]) rfl rfl ?_
        refine rf_G.get H rfl rfl ?_
        refine rf_G.step (pc' := 137) (st' := [_, _, _]) rfl rfl ?_
        refine rf_G.get H rfl rfl ?_
        refine rf_G.step (pc' := 142) (st' := [_, _, _, _]) rfl rfl ?_
        refine rf_G.iald H 30 13 48000 (by decide) rfl (rf_ix (by omega) (by decide)) ?_
        rw [nI_clamp (by omega), t1]
        refine rf_G.lald H 35 18 2882 (by decide) rfl (rf_ix (by omega) (by decide)) ?_
        rw [nI_clamp (by omega), fb]
        refine rf_G.step (pc' := 145) (st' := [_]) rfl rfl ?_
        exact gg h H
      by_cases q : sp_lt (y + c.toInt) (st.1 b) = true
      · rw [if_pos q] at er
        rw [er] at K j3 jf j4 ju
        -- the label is lowered
        have lower : ∀ R3, (∀ h, rf_At r (rf_sB R1 35 (vp_updL (R1.2.1 35) b (sp_rep (some (y + c.toInt))))) h → rf_G r 200 178 [.ref r, .int (nI first), .int (nI st.2.length), .int (nI a), .int (nI i)] [] h none R3) → ∀ h, rf_At r R1 h → rf_G r 200 99 [.ref r, .int (nI first), .int (nI st.2.length), .int (nI a), .int (nI i)] [] h none R3 := by
          intro R3 gg
          refine head R3 (fun h H => ?_)
          refine rf_G.br rfl (jx_br_lt _ _) (fun _ => ?_) (fun zq => absurd ((lg_cmp_lt0 _ _).mpr (elt.mpr q)) zq)
          refine rf_G.step (pc' := 152) (st' := [_]) rfl rfl ?_
          refine rf_G.get H rfl rfl ?_
          refine rf_G.step (pc' := 156) (st' := [_, _]) rfl rfl ?_
          refine rf_G.get H rfl rfl ?_
          refine rf_G.step (pc' := 161) (st' := [_, _, _]) rfl rfl ?_
          refine rf_G.iald H 30 13 48000 (by decide) rfl (rf_ix (by omega) (by decide)) ?_
          rw [nI_clamp (by omega), t1]
          refine rf_G.step (pc' := 163) (st' := [_, _, _]) rfl rfl ?_
          refine rf_G.get H rfl rfl ?_
          refine rf_G.step (pc' := 167) (st' := [_, _, _, _]) rfl rfl ?_
          refine rf_G.lald H 35 18 2882 (by decide) rfl (rf_ix (by omega) (by decide)) ?_
          refine rf_G.step (pc' := 169) (st' := [_, _, _, _]) rfl rfl ?_
          refine rf_G.get H rfl rfl ?_
          refine rf_G.step (pc' := 174) (st' := [_, _, _, _, _]) rfl rfl ?_
          refine rf_G.iald H 32 15 48000 (by decide) rfl (rf_ix (by omega) (by decide)) ?_
          rw [nI_clamp (by omega), nI_clamp (by omega), fa, t2]
          refine rf_G.step (pc' := 176) (st' := [_, _, _, _]) rfl rfl ?_
          refine rf_G.step (pc' := 177) (st' := [_, _, _]) rfl rfl ?_
          rw [esum]
          refine rf_G.last H 35 18 2882 (by decide) rfl (rf_ix (by omega) (by decide)) (fun h H => ?_)
          rw [nI_clamp (by omega)] at H
          exact gg h H
        have spB : ∀ v, v < 2882 → (rf_sB R1 35 (vp_updL (R1.2.1 35) b (sp_rep (some (y + c.toInt))))).2.1 35 v = sp_rep (if v = b then some (y + c.toInt) else st.1 v) := by
          intro v hv
          show vp_updL (R1.2.1 35) b (sp_rep (some (y + c.toInt))) v = _
          unfold vp_updL
          by_cases w : v = b
          · rw [if_pos w, if_pos w]
          · rw [if_neg w, if_neg w]
            exact (sp.2.1 v hv).1
        have t1B : ∀ f, (rf_sB R1 35 f).1 30 i = nI b := fun _ => t1
        have ibB : ∀ f, (rf_sB R1 35 f).1 37 b = if b ∈ st.2 then 1 else 0 := fun _ => ib
        by_cases w : b ∈ st.2
        · rw [if_pos w] at K j3 jf j4 ju
          obtain ⟨R3, f, gg⟩ := rcc ((fun v => if v = b then some (y + c.toInt) else st.1 v), st.2) (rf_sB R1 35 (vp_updL (R1.2.1 35) b (sp_rep (some (y + c.toInt))))) (k.tr rf_kS.B) ⟨sp.1, fun v hv => ⟨spB v hv, (sp.2.1 v hv).2⟩, sp.2.2⟩ j3 jf ju j4 hc2 K
          refine ⟨R3, f, lower R3 (fun h H => ?_)⟩
          refine rf_G.step (pc' := 179) (st' := [_]) rfl rfl ?_
          refine rf_G.get H rfl rfl ?_
          refine rf_G.step (pc' := 183) (st' := [_, _]) rfl rfl ?_
          refine rf_G.get H rfl rfl ?_
          refine rf_G.step (pc' := 188) (st' := [_, _, _]) rfl rfl ?_
          refine rf_G.iald H 30 13 48000 (by decide) rfl (rf_ix (by omega) (by decide)) ?_
          rw [nI_clamp (by omega), t1B]
          refine rf_G.zald H 37 20 2882 (by decide) rfl (rf_ix (by omega) (by decide)) ?_
          rw [nI_clamp (by omega), ibB, if_pos w]
          refine rf_G.br rfl (jx_br_eq _ _) (fun zq => absurd zq (by decide)) (fun _ => ?_)
          refine rf_G.step (pc' := 231) (st' := []) rfl rfl ?_
          refine next _ R3 _ ?_ gg h H
          exact e31
        · rw [if_neg w] at K j3 jf j4 ju
          have hq : (st.2 ++ [b]).length ≤ 2882 := sp_len 2882 _ j3.2.2.1 (fun v hv => (j3.2.2.2 v hv).1)
          rw [List.length_append, List.length_singleton] at hq
          obtain ⟨R3, f, gg⟩ := rcc ((fun v => if v = b then some (y + c.toInt) else st.1 v), st.2 ++ [b]) (rf_sA (rf_sA (rf_sB R1 35 (vp_updL (R1.2.1 35) b (sp_rep (some (y + c.toInt))))) 37 (upd (R1.1 37) b 1)) 38 (upd (R1.1 38) ((first + st.2.length) % 2882) (nI b))) ((k.tr rf_kS.B).tr ((rf_kS.A (by decide)).tr (rf_kS.A (by decide)))) ⟨sp.1, fun v hv => ⟨spB v hv, by
            show upd (R1.1 37) b 1 v = if v ∈ st.2 ++ [b] then 1 else 0
            unfold upd
            by_cases e : v = b
            · rw [if_pos e, if_pos (by rw [e]; simp)]
            · rw [if_neg e, (sp.2.1 v hv).2]
              have : v ∈ st.2 ++ [b] ↔ v ∈ st.2 := by
                rw [List.mem_append, List.mem_singleton]
                exact ⟨fun h => h.resolve_right e, Or.inl⟩
              simp only [this]⟩, fun j hj => by
            have hj : j < (st.2 ++ [b]).length := hj
            rw [List.length_append, List.length_singleton] at hj
            show upd (R1.1 38) ((first + st.2.length) % 2882) (nI b) ((first + j) % 2882) = nI ((st.2 ++ [b]).getD j 0)
            unfold upd
            by_cases e : j = st.2.length
            · rw [if_pos (by rw [e]), e]
              simp [List.getD_eq_getElem?_getD]
            · have hj2 : j < st.2.length := by omega
              have := sp.1
              rw [if_neg (by omega), sp.2.2 j hj2]
              simp [List.getD_eq_getElem?_getD, List.getElem?_append, hj2]⟩ j3 jf ju j4 hc2 K
          rw [show (st.2 ++ [b]).length = st.2.length + 1 by rw [List.length_append]; rfl] at gg
          refine ⟨R3, f, lower R3 (fun h H => ?_)⟩
          have hfst := sp.1
          refine rf_G.step (pc' := 179) (st' := [_]) rfl rfl ?_
          refine rf_G.get H rfl rfl ?_
          refine rf_G.step (pc' := 183) (st' := [_, _]) rfl rfl ?_
          refine rf_G.get H rfl rfl ?_
          refine rf_G.step (pc' := 188) (st' := [_, _, _]) rfl rfl ?_
          refine rf_G.iald H 30 13 48000 (by decide) rfl (rf_ix (by omega) (by decide)) ?_
          rw [nI_clamp (by omega), t1B]
          refine rf_G.zald H 37 20 2882 (by decide) rfl (rf_ix (by omega) (by decide)) ?_
          rw [nI_clamp (by omega), ibB, if_neg w]
          refine rf_G.br rfl (jx_br_eq _ _) (fun _ => ?_) (fun zq => absurd (rfl) zq)
          refine rf_G.step (pc' := 197) (st' := [_]) rfl rfl ?_
          refine rf_G.get H rfl rfl ?_
          refine rf_G.step (pc' := 201) (st' := [_, _]) rfl rfl ?_
          refine rf_G.get H rfl rfl ?_
          refine rf_G.step (pc' := 206) (st' := [_, _, _]) rfl rfl ?_
          refine rf_G.iald H 30 13 48000 (by decide) rfl (rf_ix (by omega) (by decide)) ?_
          rw [nI_clamp (by omega), t1B]
          refine rf_G.step (pc' := 208) (st' := [_, _, _]) rfl rfl ?_
          refine rf_G.zast H 37 20 2882 (by decide) rfl (rf_ix (by omega) (by decide)) (fun h H => ?_)
          rw [nI_clamp (by omega)] at H
          refine rf_G.step (pc' := 210) (st' := [_]) rfl rfl ?_
          refine rf_G.get H rfl rfl ?_
          refine rf_G.step (pc' := 214) (st' := [_, _]) rfl rfl ?_
          refine rf_G.step (pc' := 215) (st' := [_, _, _]) rfl rfl ?_
          refine rf_G.step (pc' := 216) (st' := [_, _]) rfl rfl ?_
          refine rf_G.step (pc' := 219) (st' := [_, _, _]) rfl rfl ?_
          refine rf_G.irem rfl (by decide) ?_
          rw [nI_add, rf_lit 2882, pk_rem (by omega) (by decide) (by decide)]
          have t1C : ∀ f f2, (rf_sA (rf_sB R1 35 f) 37 f2).1 30 i = nI b := fun _ _ => t1
          refine rf_G.step (pc' := 221) (st' := [_, _, _]) rfl rfl ?_
          refine rf_G.get H rfl rfl ?_
          refine rf_G.step (pc' := 226) (st' := [_, _, _, _]) rfl rfl ?_
          refine rf_G.iald H 30 13 48000 (by decide) rfl (rf_ix (by omega) (by decide)) ?_
          rw [nI_clamp (by omega), t1C]
          refine rf_G.iast H 38 21 2882 (by decide) rfl (rf_ix (by omega) (by decide)) (fun h H => ?_)
          rw [nI_clamp (by omega)] at H
          refine rf_G.step (pc' := 231) (ls' := [_, _, _, _, _]) (st' := []) rfl rfl ?_
          rw [nI_1]
          refine next _ R3 _ ?_ gg h H
          exact e31
      · rw [if_neg q] at er
        rw [er] at K j3 jf j4 ju
        obtain ⟨R3, f, gg⟩ := rcc st R1 k sp j3 jf ju j4 hc2 K
        refine ⟨R3, f, head R3 (fun h H => ?_)⟩
        refine rf_G.br rfl (jx_br_lt _ _) (fun zq => absurd zq (fun t => q (elt.mp ((lg_cmp_lt0 _ _).mp t)))) (fun _ => ?_)
        refine rf_G.step (pc' := 231) (st' := []) rfl rfl ?_
        exact next R1 R3 _ e31 gg h H
