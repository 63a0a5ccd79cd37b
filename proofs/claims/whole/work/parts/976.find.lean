/-! the works' network: least prices, whole -/
def np_small (st : sp_S) : Prop := ∀ v x, st.1 v = some x → -2 ^ 24 ≤ x ∧ x ≤ 2 ^ 24
section
variable {H : List hA} {N : Nat} {r p : Nat → Int}
theorem np_small_of (wf : nq_wf H N) (po : nq_pot H r p) {s : Nat} (hs : s < N) {st : sp_S} (i2 : ∀ v x, st.1 v = some x → v < N ∧ ∃ k, sp_W (nq_adj H r) s k v x) (u : sp_U N 1000 st) : np_small st := by
  intro v x hx
  obtain ⟨h1, k, hk⟩ := i2 v x hx
  have h2 := sp_low (nq_ok wf po hs) (C := 1000) (fun a b c h => by
    obtain ⟨i, g1, g2, g3, g4⟩ := nq_mem.mp h
    obtain ⟨rfl, rfl⟩ := Prod.mk.inj g4
    exact (wf.2.2 i g1).2.2.1) hk
  have h3 := u v x hx
  have h4 := sp_cnt_le st.1 N
  have h5 := wf.2.1
  have h7 : (1000 : Int) * (sp_cnt st.1 N : Int) ≤ 1000 * 1324 := Int.mul_le_mul_of_nonneg_left (by omega) (by omega)
  have h8 : ((N * 1000 : Nat) : Int) ≤ 1324000 := by omega
  omega
theorem nq_step_U (wf : nq_wf H N) {st : sp_S} (u : sp_U N 1000 st) : sp_U N 1000 (sp_step (nq_adj H r) st) := by
  obtain ⟨f, Q⟩ := st
  cases Q with
  | nil => exact u
  | cons a Q =>
    refine sp_fold_U (by decide) _ (f, Q) (fun e he => ?_) u
    obtain ⟨i, h1, h2, h3, rfl⟩ := nq_mem.mp he
    exact ⟨(wf.2.2 i h1).2.1, (wf.2.2 i h1).2.2.2⟩
end
section
variable {g : Nat → Option jx_E} {nx s : Nat} {H : List hA} {N : Nat} {r p : Nat → Int}
theorem kc_lower_in (W : cw) (wf : nq_wf H N) (po : nq_pot H r p) (hr : ∀ i, i < H.length → 0 ≤ r i) (K : nt_H W H N) (R : nt_R W H.length r) (src : Nat) (hs : src < N) (a : Nat) (ha : a < N) (first : Nat) :
    ∀ (l : List Nat) (x : Int32) (n : Nat) (st : sp_S) (W1 : cw) (u4 : Value), n + l.length ≤ H.length → (∀ i, i ∈ l → i ∈ hg_adj H a) → kp_f W W1 → nt_S W1 N st first → sp_I3 (nq_adj H r) N src st → (∃ y, st.1 a = some y) → sp_U N 1000 st → (∀ v, v ≠ a → sp_I4 (nq_adj H r) st v (nq_adj H r v)) → ch (W.1 25) x l →
    ∃ W2, jx_T 42 9 [.ref 22, .int (nI a), .int x, .int (nI n), u4] [] (hc W1 g nx s) none (hc W2 g nx s) ∧ kp_f W W2 ∧ nt_S W2 N ((l.filterMap (nq_one H r)).foldl (sp_rlx a) st) first
  | [], x, n, st, W1, u4, hn, _, k, S, _, _, _, _, hc => by
    have hl := wf.1
    refine ⟨W1, ?_, k, S⟩
    have hx : x = -1 := hc
    rw [hx]
    refine jx_T.step (pc' := 10) (st' := [_]) rfl rfl ?_
    refine jx_T.step (pc' := 11) (st' := [_, _]) rfl rfl ?_
    refine cl.get 22 (by decide) rfl (cw_c22 _) rfl ?_
    rw [(k.H K).2.1]
    by_cases z : H.length ≤ n
    · refine cl.bc rfl (jx_br_ge _ _) (fun _ => ?_) (fun zq => absurd (nI_le z (by have : n + 0 ≤ H.length := hn; omega)) zq)
      exact jx_T.ret rfl rfl
    · refine cl.bc rfl (jx_br_ge _ _) (fun zq => absurd zq (nI_ge (by omega) (by omega))) (fun _ => ?_)
      refine jx_T.step (pc' := 18) (st' := [_]) rfl rfl ?_
      refine cl.br rfl (jx_br_lt _ _) (fun _ => ?_) (fun zq => absurd (by decide) zq)
      exact jx_T.ret rfl rfl
  | i :: l, x, n, st, W1, u4, hn, hl, k, S, i3, hf, u, i4, hc => by
    obtain ⟨hx, hc2⟩ := hc
    subst hx
    have hH := wf.1
    have hN := wf.2.1
    rw [List.length_cons] at hn
    have him := hl i (List.mem_cons_self ..)
    obtain ⟨hi, hia⟩ := hg_mem.mp him
    obtain ⟨w1, w2, w3, w4⟩ := wf.2.2 i hi
    have K1 := k.H K
    have R1 := k.R R i hi
    obtain ⟨t1, t2⟩ := K1.2.2.1 i hi
    have rcc := fun st W1 u4 => kc_lower_in W wf po hr K R src hs a ha first l (W.1 25 i) (n + 1) st W1 u4 (by omega) (fun j hj => hl j (List.mem_cons_of_mem _ hj))
    have sm := np_small_of wf po hs i3.2.1 u
    have hri := hr i hi
    -- up to the room
    have head : ∀ {v : Option Value} {h2 : jx_H}, jx_T 42 35 [.ref 22, .int (nI a), .int (nI i), .int (nI n), .int (nI (H.getD i hd).2.1)] [.int (W1.1 26 i)] (hc W1 g nx s) v h2 → jx_T 42 9 [.ref 22, .int (nI a), .int (nI i), .int (nI n), u4] [] (hc W1 g nx s) v h2 := by
      intro v h2 t
      refine jx_T.step (pc' := 10) (st' := [_]) rfl rfl ?_
      refine jx_T.step (pc' := 11) (st' := [_, _]) rfl rfl ?_
      refine cl.get 22 (by decide) rfl (cw_c22 _) rfl ?_
      rw [K1.2.1]
      refine cl.bc rfl (jx_br_ge _ _) (fun zq => absurd zq (nI_ge (by omega) (by omega))) (fun _ => ?_)
      refine jx_T.step (pc' := 18) (st' := [_]) rfl rfl ?_
      refine cl.br rfl (jx_br_lt _ _) (fun zq => absurd zq (nI_pos (by omega))) (fun _ => ?_)
      refine jx_T.step (pc' := 22) (st' := [_]) rfl rfl ?_
      refine cl.get 22 (by decide) rfl (cw_c22 _) rfl ?_
      refine jx_T.step (pc' := 26) (st' := [_, _]) rfl rfl ?_
      refine cl.iald 24 (by decide) rfl (cw_c24 _) (rf_ix (by omega) (by decide)) ?_
      rw [nI_clamp (by omega), t1]
      refine jx_T.step (pc' := 29) (ls' := [_, _, _, _, _]) (st' := []) rfl rfl ?_
      refine jx_T.step (pc' := 30) (st' := [_]) rfl rfl ?_
      refine cl.get 22 (by decide) rfl (cw_c22 _) rfl ?_
      refine jx_T.step (pc' := 34) (st' := [_, _]) rfl rfl ?_
      refine cl.iald 26 (by decide) rfl (cw_c26 _) (rf_ix (by omega) (by decide)) ?_
      rw [nI_clamp (by omega)]
      exact t
    -- the next link
    have next : ∀ (W2 W3 : cw) (u4 : Value), kp_f W W2 → jx_T 42 9 [.ref 22, .int (nI a), .int (W.1 25 i), .int (nI (n + 1)), u4] [] (hc W2 g nx s) none (hc W3 g nx s) → jx_T 42 87 [.ref 22, .int (nI a), .int (nI i), .int (nI n), u4] [] (hc W2 g nx s) none (hc W3 g nx s) := by
      intro W2 W3 u4 k2 t
      refine jx_T.step (pc' := 88) (st' := [_]) rfl rfl ?_
      refine cl.get 22 (by decide) rfl (cw_c22 _) rfl ?_
      refine jx_T.step (pc' := 92) (st' := [_, _]) rfl rfl ?_
      refine cl.iald 25 (by decide) rfl (cw_c25 _) (rf_ix (by omega) (by decide)) ?_
      rw [nI_clamp (by omega), k2.1 25 (by decide) (by decide) (by decide)]
      refine jx_T.step (pc' := 94) (ls' := [_, _, _, _, _]) (st' := []) rfl rfl ?_
      refine jx_T.step (pc' := 97) (ls' := [_, _, _, _, _]) (st' := []) rfl rfl ?_
      refine jx_T.step (pc' := 9) (st' := []) rfl rfl ?_
      rw [nI_1]
      exact t
    by_cases z : r i = 0
    · have eo : (i :: l).filterMap (nq_one H r) = l.filterMap (nq_one H r) := by
        rw [List.filterMap_cons, show nq_one H r i = none from if_pos z]
      obtain ⟨W2, t, k2, S2⟩ := rcc st W1 (.int (nI (H.getD i hd).2.1)) k S i3 hf u i4 hc2
      refine ⟨W2, head ?_, k2, by rw [eo]; exact S2⟩
      refine cl.br rfl (jx_br_le _ _) (fun _ => ?_) (fun zq => absurd (Int32.le_iff_toInt_le.mpr (by rw [R1, z]; decide)) zq)
      exact next W1 W2 _ k t
    · have eo : (i :: l).filterMap (nq_one H r) = ((H.getD i hd).2.1, (H.getD i hd).2.2.toInt) :: l.filterMap (nq_one H r) := by
        rw [List.filterMap_cons, show nq_one H r i = some ((H.getD i hd).2.1, (H.getD i hd).2.2.toInt) from if_neg z]
      rw [eo, List.foldl_cons]
      have hadj : ((H.getD i hd).2.1, (H.getD i hd).2.2.toInt) ∈ nq_adj H r a := nq_mem.mpr ⟨i, hi, hia, z, rfl⟩
      obtain ⟨j3, j4, -, jf⟩ := sp_rlx_ok (nq_ok wf po hs) (l := []) ha hadj hf i3 i4 (fun _ _ _ _ _ q => absurd q (by simp))
      have ju := sp_rlx_U (n := N) (C := 1000) (by decide) (a := a) (e := ((H.getD i hd).2.1, (H.getD i hd).2.2.toInt)) (st := st) w2 w4 u
      generalize hb : (H.getD i hd).2.1 = b at *
      generalize hcost : (H.getD i hd).2.2 = c at *
      obtain ⟨y, hy⟩ := hf
      have sy := sm a y hy
      have fa : W1.1 28 a = np_rep (some y) := by rw [(S.2.2.2.1 a ha).1, hy]
      have fb := (S.2.2.2.1 b w2).1
      have esum : np_rep (some y) + c = np_rep (some (y + c.toInt)) := np_add (by omega) ⟨w3, w4⟩
      have elt := np_lt (y := y + c.toInt) (by omega) (o := st.1 b) (fun w hw => by have := sm b w hw; omega)
      have er : sp_rlx a st (b, c.toInt) = if sp_lt (y + c.toInt) (st.1 b) = true then ((fun v => if v = b then some (y + c.toInt) else st.1 v), if b ∈ st.2 then st.2 else st.2 ++ [b]) else st := by
        unfold sp_rlx
        rw [hy]
      have cmp : ∀ {v : Option Value} {h2 : jx_H}, jx_T 42 58 [.ref 22, .int (nI a), .int (nI i), .int (nI n), .int (nI b)] [.int (np_rep (st.1 b)), .int (np_rep (some (y + c.toInt)))] (hc W1 g nx s) v h2 → jx_T 42 9 [.ref 22, .int (nI a), .int (nI i), .int (nI n), u4] [] (hc W1 g nx s) v h2 := by
        intro v h2 t
        refine head ?_
        refine cl.br rfl (jx_br_le _ _) (fun zq => absurd zq (fun q => by have := Int32.le_iff_toInt_le.mp q; rw [R1, show (0 : Int32).toInt = 0 from by decide] at this; omega)) (fun _ => ?_)
        refine jx_T.step (pc' := 39) (st' := [_]) rfl rfl ?_
        refine cl.get 22 (by decide) rfl (cw_c22 _) rfl ?_
        refine jx_T.step (pc' := 43) (st' := [_, _]) rfl rfl ?_
        refine cl.iald 28 (by decide) rfl (cw_c28 _) (rf_ix (by omega) (by decide)) ?_
        rw [nI_clamp (by omega), fa]
        refine jx_T.step (pc' := 45) (st' := [_, _]) rfl rfl ?_
        refine cl.get 22 (by decide) rfl (cw_c22 _) rfl ?_
        refine jx_T.step (pc' := 49) (st' := [_, _, _]) rfl rfl ?_
        refine cl.iald 27 (by decide) rfl (cw_c27 _) (rf_ix (by omega) (by decide)) ?_
        rw [nI_clamp (by omega), t2]
        refine jx_T.step (pc' := 51) (st' := [_]) rfl rfl ?_
        rw [esum]
        refine jx_T.step (pc' := 52) (st' := [_, _]) rfl rfl ?_
        refine cl.get 22 (by decide) rfl (cw_c22 _) rfl ?_
        refine jx_T.step (pc' := 57) (st' := [_, _, _]) rfl rfl ?_
        refine cl.iald 28 (by decide) rfl (cw_c28 _) (rf_ix (by omega) (by decide)) ?_
        rw [nI_clamp (by omega), fb]
        exact t
      by_cases q : sp_lt (y + c.toInt) (st.1 b) = true
      · rw [if_pos q] at er
        rw [er] at j3 jf j4 ju ⊢
        obtain ⟨W2, e2⟩ : ∃ W2, W2 = cw_A W1 28 (upd (W1.1 28) b (np_rep (some (y + c.toInt)))) := ⟨_, rfl⟩
        have k2 : kp_f W1 W2 := by rw [e2]; exact kp_f.A (by decide)
        have S2 : nt_S W2 N ((fun v => if v = b then some (y + c.toInt) else st.1 v), st.2) first := by
          rw [e2]
          refine ⟨S.1, S.2.1, S.2.2.1, fun v hv => ⟨?_, ?_⟩, fun j hj => ?_⟩
          · rw [cw_Ae]
            unfold upd
            show _ = np_rep (if v = b then some (y + c.toInt) else st.1 v)
            by_cases e : v = b
            · rw [if_pos e, if_pos e]
            · rw [if_neg e, if_neg e]
              exact (S.2.2.2.1 v hv).1
          · rw [cw_An _ _ _ (by decide)]
            exact (S.2.2.2.1 v hv).2
          · rw [cw_An _ _ _ (by decide)]
            exact S.2.2.2.2 j hj
        obtain ⟨W3, c3, S3, k3⟩ := kc_enqueue (g := g) (nx := nx) (s := s) (W := W2) ((k2.H K1).1) hN _ first b w2 S2 (fun wn => by
          have wn : b ∉ st.2 := wn
          rw [if_neg wn] at j3
          have := sp_len N _ j3.2.2.1 (fun v hv => (j3.2.2.2 v hv).1)
          rw [List.length_append, List.length_singleton] at this
          exact this)
        obtain ⟨W4, t, k4, S4⟩ := rcc _ W3 (.int (nI b)) (k.tr (k2.tr k3)) S3 j3 jf ju j4 hc2
        refine ⟨W4, cmp ?_, k4, S4⟩
        refine cl.bc rfl (jx_br_ge _ _) (fun zq => absurd zq (Int32.not_le.mpr (elt.mpr q))) (fun _ => ?_)
        refine jx_T.step (pc' := 62) (st' := [_]) rfl rfl ?_
        refine cl.get 22 (by decide) rfl (cw_c22 _) rfl ?_
        refine jx_T.step (pc' := 67) (st' := [_, _]) rfl rfl ?_
        refine jx_T.step (pc' := 68) (st' := [_, _, _]) rfl rfl ?_
        refine cl.get 22 (by decide) rfl (cw_c22 _) rfl ?_
        refine jx_T.step (pc' := 72) (st' := [_, _, _, _]) rfl rfl ?_
        refine cl.iald 28 (by decide) rfl (cw_c28 _) (rf_ix (by omega) (by decide)) ?_
        rw [nI_clamp (by omega), fa]
        refine jx_T.step (pc' := 74) (st' := [_, _, _, _]) rfl rfl ?_
        refine cl.get 22 (by decide) rfl (cw_c22 _) rfl ?_
        refine jx_T.step (pc' := 78) (st' := [_, _, _, _, _]) rfl rfl ?_
        refine cl.iald 27 (by decide) rfl (cw_c27 _) (rf_ix (by omega) (by decide)) ?_
        rw [nI_clamp (by omega), t2]
        refine jx_T.step (pc' := 80) (st' := [_, _, _]) rfl rfl ?_
        rw [esum]
        refine cl.iast 28 (by decide) rfl (cw_c28 _) (cw_s28 _) (rf_ix (by omega) (by decide)) ?_
        rw [nI_clamp (by omega), ← e2]
        refine jx_T.step (pc' := 82) (st' := [_]) rfl rfl ?_
        refine jx_T.step (pc' := 84) (st' := [_, _]) rfl rfl ?_
        refine cl.v1V (hc_fix 22 (by decide) (cw_c22 _)) rfl (by decide) rfl ⟨Nat.le_of_ble_eq_true rfl, rfl⟩ (Nat.le_of_ble_eq_true rfl) (c3) ?_
        exact next W3 W4 _ (k.tr (k2.tr k3)) t
      · rw [if_neg q] at er
        rw [er] at j3 jf j4 ju ⊢
        obtain ⟨W4, t, k4, S4⟩ := rcc _ W1 (.int (nI b)) k S j3 jf ju j4 hc2
        refine ⟨W4, cmp ?_, k4, S4⟩
        refine cl.bc rfl (jx_br_ge _ _) (fun _ => ?_) (fun zq => absurd (Int32.not_lt.mp (fun w => q (elt.mp w))) zq)
        exact next W1 W4 _ k t
theorem hg_len (H : List hA) (a : Nat) : (hg_adj H a).length ≤ H.length := by
  unfold hg_adj
  rw [List.length_reverse]
  have := List.length_filter_le (fun i => decide ((H.getD i hd).1 = a)) (List.range H.length)
  rw [List.length_range] at this
  exact this
theorem kc_find_out (W : cw) (wf : nq_wf H N) (po : nq_pot H r p) (hr : ∀ i, i < H.length → 0 ≤ r i) (K : nt_H W H N) (R : nt_R W H.length r) (src : Nat) (hs : src < N) :
    ∀ (d n : Nat) (st : sp_S) (W1 : cw) (first : Nat) (u3 : Value), n + d = 1000000 → sp_I (nq_adj H r) N src st → sp_U N 1000 st → kp_f W W1 → nt_S W1 N st first → (sp_it (nq_adj H r) d st).2 = [] → ∃ W2, jx_T 40 55 [.ref 22, .int (nI src), .int (nI n), u3] [] (hc W1 g nx s) none (hc W2 g nx s) ∧ kp_f W W2 ∧ ∀ v, v < N → W2.1 28 v = np_rep ((sp_it (nq_adj H r) d st).1 v) := by
  have hN := wf.2.1
  intro d
  induction d with
  | zero =>
    intro n st W1 first u3 hn i u k S he
    refine ⟨W1, ?_, k, fun v hv => (S.2.2.2.1 v hv).1⟩
    refine jx_T.step (pc' := 56) (st' := [_]) rfl rfl ?_
    refine jx_T.step (pc' := 58) (st' := [_, _]) rfl rfl ?_
    rw [rf_lit 1000000]
    refine cl.bc rfl (jx_br_ge _ _) (fun _ => ?_) (fun zq => absurd (nI_le (by omega) (by omega)) zq)
    exact jx_T.ret rfl rfl
  | succ d ih =>
    intro n st W1 first u3 hn i u k S he
    by_cases hq : st.2 = []
    · refine ⟨W1, ?_, k, fun v hv => by rw [sp_it_nil hq]; exact (S.2.2.2.1 v hv).1⟩
      refine jx_T.step (pc' := 56) (st' := [_]) rfl rfl ?_
      refine jx_T.step (pc' := 58) (st' := [_, _]) rfl rfl ?_
      rw [rf_lit 1000000]
      refine cl.bc rfl (jx_br_ge _ _) (fun zq => absurd zq (nI_ge (by omega) (by omega))) (fun _ => ?_)
      refine jx_T.step (pc' := 62) (st' := [_]) rfl rfl ?_
      refine cl.get 22 (by decide) rfl (cw_c22 _) rfl ?_
      rw [S.2.2.1, hq]
      refine cl.br rfl (jx_br_le _ _) (fun _ => ?_) (fun zq => absurd (by decide) zq)
      exact jx_T.ret rfl rfl
    · have si := sp_step_ok (nq_ok wf po hs) i
      have su := nq_step_U (r := r) wf u
      obtain ⟨f, Q0⟩ := st
      cases Q0 with
      | nil => exact absurd rfl hq
      | cons a Q =>
        obtain ⟨⟨i1, i2, i3, i4⟩, i5⟩ := i
        obtain ⟨ha, x, hx⟩ := i4 a (List.mem_cons_self ..)
        obtain ⟨n1, n2⟩ := List.nodup_cons.mp i3
        have hl : (a :: Q).length ≤ N := sp_len N _ i3 (fun v hv => (i4 v hv).1)
        rw [List.length_cons] at hl
        obtain ⟨s1, s2, s3, s4, s5⟩ := S
        have K1 := k.H K
        obtain ⟨nf, enf⟩ : ∃ nf, nf = if first + 1 < N then first + 1 else 0 := ⟨_, rfl⟩
        have hnf : nf < N := by rw [enf]; split <;> omega
        obtain ⟨W2, e2⟩ : ∃ W2, W2 = cw_A (cw_I (cw_I W1 22 12 (nI nf)) 22 13 (nI Q.length)) 30 (upd (W1.1 30) a 0) := ⟨_, rfl⟩
        have k2 : kp_f W1 W2 := by rw [e2]; exact ((kp_f.I (by decide)).tr (kp_f.I (by decide))).tr (kp_f.A (by decide))
        have S2 : nt_S W2 N (f, Q) nf := by
          rw [e2]
          refine ⟨hnf, rfl, rfl, fun v hv => ⟨?_, ?_⟩, fun j hj => ?_⟩
          · rw [cw_An _ _ _ (by decide)]
            exact (s4 v hv).1
          · rw [cw_Ae]
            unfold upd
            by_cases e : v = a
            · rw [if_pos e, if_neg (by rw [e]; exact n1)]
            · rw [if_neg e, (s4 v hv).2]
              have : v ∈ a :: Q ↔ v ∈ Q := by
                rw [List.mem_cons]
                exact ⟨fun h => h.resolve_left e, Or.inr⟩
              simp only [this]
          · rw [cw_An _ _ _ (by decide)]
            have := s5 (j + 1) (Nat.succ_lt_succ hj)
            have hj3 : j < Q.length := hj
            rw [show (nf + j) % N = (first + (j + 1)) % N by
              rw [enf, Nat_modw s1 (show j + 1 < N by omega)]
              by_cases z : first + 1 < N
              · rw [if_pos z, Nat_modw z (show j < N by omega)]
                split <;> split <;> omega
              · rw [if_neg z, Nat.zero_add, Nat.mod_eq_of_lt (by omega), if_neg (by omega)]
                omega]
            exact this
        obtain ⟨W3, t3, k3, S3⟩ := kc_lower_in (g := g) (nx := nx) (s := s) W wf po hr K R src hs a ha nf (hg_adj H a) (W.1 23 a) 0 (f, Q) W2 (.retAddr 0) (by have := hg_len H a; omega) (fun i hi => hi) (k.tr k2) S2 ⟨i1, i2, n2, fun v hv => i4 v (List.mem_cons_of_mem _ hv)⟩ ⟨x, hx⟩ u (fun v hv y hy hq => i5 v y hy (fun q => by
          rcases List.mem_cons.mp q with q | q
          · exact hv q
          · exact hq q)) (K.2.2.2 a ha)
        have c3 : jx_T 42 0 (jx_ent 42 [.ref 22, .int (nI a)]) [] (hc W2 g nx s) none (hc W3 g nx s) := by
          show jx_T 42 0 [.ref 22, .int (nI a), .retAddr 0, .retAddr 0, .retAddr 0] [] _ _ _
          refine jx_T.step (pc' := 1) (st' := [_]) rfl rfl ?_
          refine cl.get 22 (by decide) rfl (cw_c22 _) rfl ?_
          refine jx_T.step (pc' := 5) (st' := [_, _]) rfl rfl ?_
          refine cl.iald 23 (by decide) rfl (cw_c23 _) (rf_ix (by omega) (by decide)) ?_
          rw [nI_clamp (by omega), (k.tr k2).1 23 (by decide) (by decide) (by decide)]
          refine jx_T.step (pc' := 7) (ls' := [_, _, _, _, _]) (st' := []) rfl rfl ?_
          refine jx_T.step (pc' := 8) (st' := [_]) rfl rfl ?_
          refine jx_T.step (pc' := 9) (ls' := [_, _, _, _, _]) (st' := []) rfl rfl ?_
          exact t3
        obtain ⟨W4, t4, k4, S4⟩ := ih (n + 1) _ W3 nf (.int (nI a)) (by omega) si su k3 S3 he
        refine ⟨W4, ?_, k4, S4⟩
        have ew : W1.1 29 first = nI a := by
          have := s5 0 (Nat.succ_pos _)
          rw [Nat.add_zero, Nat.mod_eq_of_lt s1] at this
          exact this
        have tail : jx_T 40 102 [.ref 22, .int (nI src), .int (nI n), .int (nI a)] [.int (nI nf), .ref 22] (hc W1 g nx s) none (hc W4 g nx s) := by
          have v13 : ∀ v, (cw_I W1 22 12 v).2.2.1 22 13 = nI (a :: Q).length := fun _ => s3
          refine cl.put 22 (by decide) rfl (cw_c22 _) (Nat.le_of_ble_eq_true rfl) rfl (cw_f22_12 _ _) ?_
          refine jx_T.step (pc' := 106) (st' := [_]) rfl rfl ?_
          refine jx_T.step (pc' := 107) (st' := [_, _]) rfl rfl ?_
          refine cl.get 22 (by decide) rfl (cw_c22 _) rfl ?_
          rw [v13]
          refine jx_T.step (pc' := 111) (st' := [_, _, _]) rfl rfl ?_
          refine jx_T.step (pc' := 112) (st' := [_, _]) rfl rfl ?_
          rw [rf_lit 1, rf_nsub (by rw [List.length_cons]; omega), show (a :: Q).length - 1 = Q.length from rfl]
          refine cl.put 22 (by decide) rfl (cw_c22 _) (Nat.le_of_ble_eq_true rfl) rfl (cw_f22_13 _ _) ?_
          refine jx_T.step (pc' := 116) (st' := [_]) rfl rfl ?_
          refine cl.get 22 (by decide) rfl (cw_c22 _) rfl ?_
          refine jx_T.step (pc' := 120) (st' := [_, _]) rfl rfl ?_
          refine jx_T.step (pc' := 121) (st' := [_, _, _]) rfl rfl ?_
          refine cl.zast 30 (by decide) rfl (cw_c30 _) (cw_s30 _) (rf_ix (by omega) (by decide)) ?_
          rw [nI_clamp (by omega), show vp_nar .boolean 0 = 0 from by decide]
          rw [show cw_A (cw_I (cw_I W1 22 12 (nI nf)) 22 13 (nI Q.length)) 30 (upd ((cw_I (cw_I W1 22 12 (nI nf)) 22 13 (nI Q.length)).1 30) a 0) = W2 from e2.symm]
          refine jx_T.step (pc' := 123) (st' := [_]) rfl rfl ?_
          refine jx_T.step (pc' := 124) (st' := [_, _]) rfl rfl ?_
          refine cl.v1V (hc_fix 22 (by decide) (cw_c22 _)) rfl (by decide) rfl ⟨Nat.le_of_ble_eq_true rfl, rfl⟩ (Nat.le_of_ble_eq_true rfl) (c3) ?_
          refine jx_T.step (pc' := 130) (ls' := [_, _, _, _]) (st' := []) rfl rfl ?_
          refine jx_T.step (pc' := 55) (st' := []) rfl rfl ?_
          rw [nI_1]
          exact t4
        refine jx_T.step (pc' := 56) (st' := [_]) rfl rfl ?_
        refine jx_T.step (pc' := 58) (st' := [_, _]) rfl rfl ?_
        rw [rf_lit 1000000]
        refine cl.bc rfl (jx_br_ge _ _) (fun zq => absurd zq (nI_ge (by omega) (by omega))) (fun _ => ?_)
        refine jx_T.step (pc' := 62) (st' := [_]) rfl rfl ?_
        refine cl.get 22 (by decide) rfl (cw_c22 _) rfl ?_
        rw [s3]
        refine cl.br rfl (jx_br_le _ _) (fun zq => absurd zq (nI_ge (a := 0) (b := Q.length + 1) (by omega) (by omega))) (fun _ => ?_)
        refine jx_T.step (pc' := 69) (st' := [_]) rfl rfl ?_
        refine cl.get 22 (by decide) rfl (cw_c22 _) rfl ?_
        refine jx_T.step (pc' := 73) (st' := [_, _]) rfl rfl ?_
        refine cl.get 22 (by decide) rfl (cw_c22 _) rfl ?_
        rw [s2]
        refine cl.iald 29 (by decide) rfl (cw_c29 _) (rf_ix (by omega) (by decide)) ?_
        rw [nI_clamp (by omega), ew]
        refine jx_T.step (pc' := 78) (ls' := [_, _, _, _]) (st' := []) rfl rfl ?_
        refine jx_T.step (pc' := 79) (st' := [_]) rfl rfl ?_
        refine jx_T.step (pc' := 80) (st' := [_, _]) rfl rfl ?_
        refine cl.get 22 (by decide) rfl (cw_c22 _) rfl ?_
        refine jx_T.step (pc' := 84) (st' := [_, _, _]) rfl rfl ?_
        rw [s2]
        refine jx_T.step (pc' := 85) (st' := [_, _]) rfl rfl ?_
        refine jx_T.step (pc' := 86) (st' := [_, _, _]) rfl rfl ?_
        refine cl.get 22 (by decide) rfl (cw_c22 _) rfl ?_
        rw [K1.1, nI_1]
        by_cases z : first + 1 < N
        · rw [if_pos z] at enf
          refine cl.bc rfl (jx_br_ge _ _) (fun zq => absurd zq (nI_ge z (by omega))) (fun _ => ?_)
          refine jx_T.step (pc' := 93) (st' := [_, _]) rfl rfl ?_
          refine cl.get 22 (by decide) rfl (cw_c22 _) rfl ?_
          rw [s2]
          refine jx_T.step (pc' := 97) (st' := [_, _, _]) rfl rfl ?_
          refine jx_T.step (pc' := 98) (st' := [_, _]) rfl rfl ?_
          rw [nI_1]
          refine jx_T.step (pc' := 102) (st' := [_, _]) rfl rfl ?_
          rw [← enf]
          exact tail
        · rw [if_neg z] at enf
          subst enf
          refine cl.bc rfl (jx_br_ge _ _) (fun _ => ?_) (fun zq => absurd (nI_le (by omega) (by omega)) zq)
          refine jx_T.step (pc' := 102) (st' := [_, _]) rfl rfl ?_
          exact tail
theorem kc_findPrices (W : cw) (wf : nq_wf H N) (po : nq_pot H r p) (hr : ∀ i, i < H.length → 0 ≤ r i) (K : nt_H W H N) (R : nt_R W H.length r) (src : Nat) (hs : src < N) : ∃ (W2 : cw) (F : Nat → Option Int), jx_T 40 0 (jx_ent 40 [.ref 22, .int (nI src)]) [] (hc W g nx s) none (hc W2 g nx s) ∧ kp_f W W2 ∧ (∀ v, v < N → W2.1 28 v = np_rep (F v)) ∧ ∀ v x, F v = some x ↔ sp_D (nq_adj H r) src v x := by
  have hN := wf.2.1
  have ok := nq_ok wf po hs
  have mn := sp_main ok 1000000 (sp_tri_m wf.2.1)
  have fill : ∀ d k (W1 : cw), k + d = N → kp_f W W1 → (∀ v, v < k → W1.1 28 v = 2147483647 ∧ W1.1 30 v = 0) → ∃ W2, jx_T 40 2 [.ref 22, .int (nI src), .int (nI k), .retAddr 0] [] (hc W1 g nx s) none (hc W2 g nx s) ∧ kp_f W W2 ∧ ∀ v, v < N → W2.1 28 v = np_rep ((sp_it (nq_adj H r) 1000000 (sp_0 src)).1 v) := by
    intro d
    induction d with
    | zero =>
      intro k W1 hk k1 hz
      obtain rfl : k = N := by omega
      have K1 := k1.H K
      obtain ⟨W2, e2⟩ : ∃ W2, W2 = cw_I (cw_I (cw_A W1 28 (upd (W1.1 28) src 0)) 22 12 0) 22 13 0 := ⟨_, rfl⟩
      have k2 : kp_f W1 W2 := by rw [e2]; exact ((kp_f.A (by decide)).tr (kp_f.I (by decide))).tr (kp_f.I (by decide))
      have S2 : nt_S W2 k ((sp_0 src).1, []) 0 := by
        rw [e2]
        refine ⟨by omega, rfl, rfl, fun v hv => ⟨?_, ?_⟩, fun j hj => absurd hj (by simp)⟩
        · show (cw_A W1 28 (upd (W1.1 28) src 0)).1 28 v = np_rep (if v = src then some 0 else none)
          rw [cw_Ae]
          unfold upd
          by_cases e : v = src
          · rw [if_pos e, if_pos e]
            rfl
          · rw [if_neg e, if_neg e]
            exact (hz v hv).1
        · show (cw_A W1 28 (upd (W1.1 28) src 0)).1 30 v = _
          rw [cw_An _ _ _ (by decide), if_neg (by simp)]
          exact (hz v hv).2
      obtain ⟨W3, c3, S3, k3⟩ := kc_enqueue (g := g) (nx := nx) (s := s) (W := W2) ((k2.H K1).1) hN _ 0 src hs S2 (fun _ => by show 0 < k; omega)
      have u0 : sp_U k 1000 (sp_0 src) := by
        intro v x hx
        have hx : (if v = src then some (0 : Int) else none) = some x := hx
        have h0 : x = 0 := by
          by_cases e : v = src
          · rw [if_pos e] at hx
            exact (Option.some.inj hx).symm
          · rw [if_neg e] at hx
            exact absurd hx (by simp)
        have h1 := sp_cnt_set (fun _ => none) src 0 k
        rw [if_pos ⟨hs, rfl⟩] at h1
        have h2 : sp_cnt (sp_0 src).1 k = sp_cnt (fun _ => none) k + 1 := h1
        have h3 : (1000 : Int) * ((sp_cnt (fun _ => none) k + 1 : Nat) : Int) = 1000 * (sp_cnt (fun _ => none) k : Int) + 1000 := by
          rw [Int.natCast_add, Int.mul_add]
          simp
        rw [h2, h3]
        omega
      obtain ⟨W4, t4, k4, S4⟩ := kc_find_out (g := g) (nx := nx) (s := s) W wf po hr K R src hs 1000000 0 (sp_0 src) W3 0 (.retAddr 0) (by omega) (sp_0_I ok) u0 (k1.tr (k2.tr k3)) S3 mn.1
      refine ⟨W4, ?_, k4, S4⟩
      refine jx_T.step (pc' := 3) (st' := [_]) rfl rfl ?_
      refine jx_T.step (pc' := 4) (st' := [_, _]) rfl rfl ?_
      refine cl.get 22 (by decide) rfl (cw_c22 _) rfl ?_
      rw [K1.1]
      refine cl.bc rfl (jx_br_ge _ _) (fun _ => ?_) (fun zq => absurd (Int32.le_refl _) zq)
      refine jx_T.step (pc' := 32) (st' := [_]) rfl rfl ?_
      refine cl.get 22 (by decide) rfl (cw_c22 _) rfl ?_
      refine jx_T.step (pc' := 36) (st' := [_, _]) rfl rfl ?_
      refine jx_T.step (pc' := 37) (st' := [_, _, _]) rfl rfl ?_
      refine cl.iast 28 (by decide) rfl (cw_c28 _) (cw_s28 _) (rf_ix (by omega) (by decide)) ?_
      rw [nI_clamp (by omega)]
      refine jx_T.step (pc' := 39) (st' := [_]) rfl rfl ?_
      refine jx_T.step (pc' := 40) (st' := [_, _]) rfl rfl ?_
      refine cl.put 22 (by decide) rfl (cw_c22 _) (Nat.le_of_ble_eq_true rfl) rfl (cw_f22_12 _ _) ?_
      refine jx_T.step (pc' := 44) (st' := [_]) rfl rfl ?_
      refine jx_T.step (pc' := 45) (st' := [_, _]) rfl rfl ?_
      refine cl.put 22 (by decide) rfl (cw_c22 _) (Nat.le_of_ble_eq_true rfl) rfl (cw_f22_13 _ _) ?_
      rw [← e2]
      refine jx_T.step (pc' := 49) (st' := [_]) rfl rfl ?_
      refine jx_T.step (pc' := 50) (st' := [_, _]) rfl rfl ?_
      refine cl.v1V (hc_fix 22 (by decide) (cw_c22 _)) rfl (by decide) rfl ⟨Nat.le_of_ble_eq_true rfl, rfl⟩ (Nat.le_of_ble_eq_true rfl) (c3) ?_
      refine jx_T.step (pc' := 54) (st' := [_]) rfl rfl ?_
      refine jx_T.step (pc' := 55) (ls' := [_, _, _, _]) (st' := []) rfl rfl ?_
      exact t4
    | succ d ih =>
      intro k W1 hk k1 hz
      have K1 := k1.H K
      obtain ⟨W2, e2⟩ : ∃ W2, W2 = cw_A (cw_A W1 28 (upd (W1.1 28) k 2147483647)) 30 (upd (W1.1 30) k 0) := ⟨_, rfl⟩
      have k2 : kp_f W1 W2 := by rw [e2]; exact (kp_f.A (by decide)).tr (kp_f.A (by decide))
      obtain ⟨W3, t, r3⟩ := ih (k + 1) W2 (by omega) (k1.tr k2) (fun v hv => by
        rw [e2, cw_Ae, cw_An _ _ _ (by decide), cw_Ae]
        unfold upd
        by_cases e : v = k
        · rw [if_pos e, if_pos e]
          exact ⟨rfl, rfl⟩
        · rw [if_neg e, if_neg e]
          exact hz v (by omega))
      refine ⟨W3, ?_, r3⟩
      refine jx_T.step (pc' := 3) (st' := [_]) rfl rfl ?_
      refine jx_T.step (pc' := 4) (st' := [_, _]) rfl rfl ?_
      refine cl.get 22 (by decide) rfl (cw_c22 _) rfl ?_
      rw [K1.1]
      refine cl.bc rfl (jx_br_ge _ _) (fun zq => absurd zq (nI_ge (by omega) (by omega))) (fun _ => ?_)
      refine jx_T.step (pc' := 11) (st' := [_]) rfl rfl ?_
      refine cl.get 22 (by decide) rfl (cw_c22 _) rfl ?_
      refine jx_T.step (pc' := 15) (st' := [_, _]) rfl rfl ?_
      refine jx_T.step (pc' := 17) (st' := [_, _, _]) rfl rfl ?_
      refine cl.iast 28 (by decide) rfl (cw_c28 _) (cw_s28 _) (rf_ix (by omega) (by decide)) ?_
      rw [nI_clamp (by omega)]
      refine jx_T.step (pc' := 19) (st' := [_]) rfl rfl ?_
      refine cl.get 22 (by decide) rfl (cw_c22 _) rfl ?_
      refine jx_T.step (pc' := 23) (st' := [_, _]) rfl rfl ?_
      refine jx_T.step (pc' := 24) (st' := [_, _, _]) rfl rfl ?_
      refine cl.zast 30 (by decide) rfl (cw_c30 _) (cw_s30 _) (rf_ix (by omega) (by decide)) ?_
      rw [nI_clamp (by omega), cw_An _ _ _ (by decide), show vp_nar .boolean 0 = 0 from by decide, ← e2]
      refine jx_T.step (pc' := 28) (ls' := [_, _, _, _]) (st' := []) rfl rfl ?_
      refine jx_T.step (pc' := 2) (st' := []) rfl rfl ?_
      rw [nI_1]
      exact t
  obtain ⟨W2, t, k2, S2⟩ := fill N 0 W (by omega) kp_f.rf (fun v hv => absurd hv (by omega))
  refine ⟨W2, _, ?_, k2, S2, mn.2⟩
  show jx_T 40 0 [.ref 22, .int (nI src), .retAddr 0, .retAddr 0] [] _ _ _
  refine jx_T.step (pc' := 1) (st' := [_]) rfl rfl ?_
  refine jx_T.step (pc' := 2) (ls' := [_, _, _, _]) (st' := []) rfl rfl ?_
  exact t
end
