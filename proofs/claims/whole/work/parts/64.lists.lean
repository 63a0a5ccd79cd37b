/-! the works' levels as lists; a state, as its object tells it -/
theorem lv_insF (f : Nat → Int32) (n : Nat) (v : Int32) : (if rf_pos f v n 0 < n ∧ f (rf_pos f v n 0) = v then lv_of f n else lv_of (upd (rf_sh f n (rf_pos f v n 0)) (rf_pos f v n 0) v) (n + 1)) = lv_ins v (lv_of f n) := by
  have h := lv_jn ((fun _ => f), (fun _ _ => 0), (fun _ => 0), (fun _ => 0)) n v
  unfold rf_jn rf_jc at h
  by_cases z : rf_pos f v n 0 < n ∧ f (rf_pos f v n 0) = v
  · rw [if_pos z]
    rw [if_pos z, if_pos z] at h
    exact h
  · rw [if_neg z]
    rw [if_neg z, if_neg z] at h
    exact h
theorem lv_of_len (f : Nat → Int32) (n : Nat) : (lv_of f n).length = n := by
  unfold lv_of
  rw [List.length_map, List.length_range']
theorem lv_of_get (f : Nat → Int32) (n k : Nat) (h : k < n) : (lv_of f n).getD k 0 = f k := by
  unfold lv_of
  rw [List.getD_eq_getElem?_getD, List.getElem?_map, List.getElem?_range' h]
  simp
theorem lv_ins_len (v : Int32) : ∀ L : List Int32, (lv_ins v L).length ≤ L.length + 1
  | [] => Nat.le_refl 1
  | a :: L => by
    unfold lv_ins
    split
    · rw [List.length_cons, List.length_cons]
      exact Nat.succ_le_succ (lv_ins_len v L)
    · split
      · omega
      · simp
theorem lv_all_len : ∀ (vs L : List Int32), (lv_all L vs).length ≤ L.length + vs.length
  | [], L => Nat.le_refl _
  | v :: vs, L => by
    have h1 := lv_all_len vs (lv_ins v L)
    have h2 := lv_ins_len v L
    show (lv_all (lv_ins v L) vs).length ≤ _
    rw [List.length_cons]
    omega
def sv_ls (S : sv) (gap : Int32) (k : Nat) : List Int32 := (List.range' 0 k).map (sv_lv S gap)
theorem sv_ls_len (S : sv) (gap : Int32) (k : Nat) : (sv_ls S gap k).length = k := by
  unfold sv_ls
  rw [List.length_map, List.length_range']
def kl_4 (W : cw) (L : List Int32) : Prop := W.2.2.1 4 1 = nI L.length ∧ lv_of (W.1 5) L.length = L
def kf_4 (W W2 : cw) : Prop := (∀ k, k ≠ 5 → W2.1 k = W.1 k) ∧ W2.2.1 = W.2.1 ∧ (∀ k y, ¬ (k = 4 ∧ y = 1) → W2.2.2.1 k y = W.2.2.1 k y) ∧ W2.2.2.2 = W.2.2.2
theorem kf_4.rf {W : cw} : kf_4 W W := ⟨fun _ _ => rfl, rfl, fun _ _ _ => rfl, rfl⟩
theorem kf_4.tr {W W2 W3 : cw} (a : kf_4 W W2) (b : kf_4 W2 W3) : kf_4 W W3 := ⟨fun k h => (b.1 k h).trans (a.1 k h), b.2.1.trans a.2.1, fun k y h => (b.2.2.1 k y h).trans (a.2.2.1 k y h), b.2.2.2.trans a.2.2.2⟩
theorem kl_4.get {W : cw} {L : List Int32} (h : kl_4 W L) (k : Nat) (hk : k < L.length) : W.1 5 k = L.getD k 0 := by
  rw [← lv_of_get (W.1 5) L.length k hk, h.2]
theorem kc_ins4 (W : cw) (g : Nat → Option jx_E) (nx s : Nat) (L : List Int32) (kl : kl_4 W L) (hL : L.length < 110) (v : Int32) : ∃ W2, jx_T 26 0 (jx_ent 26 [.ref 4, .int v]) [] (hc W g nx s) none (hc W2 g nx s) ∧ kl_4 W2 (lv_ins v L) ∧ kf_4 W W2 := by
  refine ⟨kw_add4 W L.length v, kc_add4 W g nx s L.length hL kl.1 v, ?_, ?_⟩
  · have h := lv_insF (W.1 5) L.length v
    unfold kw_add4
    rw [kl.2] at h
    by_cases z : rf_pos (W.1 5) v L.length 0 < L.length ∧ W.1 5 (rf_pos (W.1 5) v L.length 0) = v
    · rw [if_pos z] at h ⊢
      rw [← h]
      exact kl
    · rw [if_neg z] at h ⊢
      have hl : (lv_ins v L).length = L.length + 1 := by rw [← h, lv_of_len]
      unfold kl_4
      rw [hl]
      exact ⟨rfl, h⟩
  · unfold kw_add4
    split
    · exact kf_4.rf
    · exact ⟨fun k h => if_neg h, rfl, fun k y h => if_neg h, rfl⟩
theorem kc_all4 (W : cw) {g : Nat → Option jx_E} (nx s : Nat) {a : Nat} {S : sv} (im : im_str g a S) (hn : sv_n S ≤ 8) (gap : Int32) (L : List Int32) (kl : kl_4 W L) (hL : L.length + sv_n S < 110) : ∃ W2, jx_T 25 0 (jx_ent 25 [.ref 4, .ref a, .int gap]) [] (hc W g nx s) none (hc W2 g nx s) ∧ kl_4 W2 (lv_all L (sv_ls S gap (sv_n S + 1))) ∧ kf_4 W W2 := by
  have im0 := im
  obtain ⟨ad, af, h1, h2, h3⟩ := im
  have loop : ∀ d i W1, i + d = sv_n S → kl_4 W1 (lv_all L (sv_ls S gap (i + 1))) → kf_4 W W1 → ∃ W2, (kl_4 W2 (lv_all L (sv_ls S gap (sv_n S + 1))) ∧ kf_4 W W2) ∧ jx_T 25 14 [.ref 4, .ref a, .int gap, .int (sv_lv S gap i), .int (nI i)] [] (hc W1 g nx s) none (hc W2 g nx s) := by
    intro d
    induction d with
    | zero =>
      intro i W1 hi k1 f1
      obtain rfl : i = sv_n S := by omega
      refine ⟨W1, ⟨k1, f1⟩, ?_⟩
      refine jx_T.step (pc' := 16) (st' := [_]) rfl rfl ?_
      refine jx_T.step (pc' := 17) (st' := [_, _]) rfl rfl ?_
      refine cl.geti (h1).1 (h1).2 rfl rfl ?_
      refine cl.aleni (h2).1 (h2).2 rfl (Or.inl (by decide)) ?_
      refine cl.bc rfl (jx_br_ge _ _) (fun _ => ?_) (fun zq => absurd (Int32.le_refl _) zq)
      exact jx_T.ret rfl rfl
    | succ d ih =>
      intro i W1 hi k1 f1
      have hl := lv_all_len (sv_ls S gap (i + 1)) L
      rw [sv_ls_len] at hl
      obtain ⟨W2, c2, k2, f2⟩ := kc_ins4 W1 g nx s _ k1 (by omega) (sv_lv S gap (i + 1))
      have e : lv_ins (sv_lv S gap (i + 1)) (lv_all L (sv_ls S gap (i + 1))) = lv_all L (sv_ls S gap (i + 1 + 1)) := by
        unfold sv_ls
        rw [lv_r1 (sv_lv S gap) (i + 1), lv_all_s]
      rw [e] at k2
      obtain ⟨W3, f3, gg⟩ := ih (i + 1) W2 (by omega) k2 (f1.tr f2)
      refine ⟨W3, f3, ?_⟩
      refine jx_T.step (pc' := 16) (st' := [_]) rfl rfl ?_
      refine jx_T.step (pc' := 17) (st' := [_, _]) rfl rfl ?_
      refine cl.geti (h1).1 (h1).2 rfl rfl ?_
      refine cl.aleni (h2).1 (h2).2 rfl (Or.inl (by decide)) ?_
      refine cl.bc rfl (jx_br_ge _ _) (fun zq => absurd zq (nI_ge (by omega) (by omega))) (fun _ => ?_)
      refine jx_T.step (pc' := 25) (st' := [_]) rfl rfl ?_
      refine jx_T.step (pc' := 26) (st' := [_, _]) rfl rfl ?_
      refine cl.geti (h1).1 (h1).2 rfl rfl ?_
      refine jx_T.step (pc' := 31) (st' := [_, _, _]) rfl rfl ?_
      refine cl.ialdi (h2).1 (h2).2 rfl (rf_ix (by omega) (by omega)) ?_
      rw [nI_clamp (by omega)]
      refine jx_T.step (pc' := 33) (st' := [_]) rfl rfl ?_
      refine jx_T.step (pc' := 34) (ls' := [_, _, _, _, _]) (st' := []) rfl rfl ?_
      refine jx_T.step (pc' := 35) (st' := [_]) rfl rfl ?_
      refine jx_T.step (pc' := 36) (st' := [_, _]) rfl rfl ?_
      refine cl.v1V (hc_fix 4 (by decide) (cw_c4 _)) rfl (by decide) rfl ⟨Nat.le_of_ble_eq_true rfl, rfl⟩ (Nat.le_of_ble_eq_true rfl) (c2) ?_
      refine jx_T.step (pc' := 42) (ls' := [_, _, _, _, _]) (st' := []) rfl rfl ?_
      refine jx_T.step (pc' := 14) (st' := []) rfl rfl ?_
      rw [nI_1]
      exact gg
  obtain ⟨W1, c1, k1, f1⟩ := kc_ins4 W g nx s L kl (by omega) (sv_top S gap)
  obtain ⟨W2, ⟨k2, f2⟩, gg⟩ := loop (sv_n S) 0 W1 (by omega) k1 f1
  refine ⟨W2, ?_, k2, f2⟩
  show jx_T 25 0 [.ref 4, .ref a, .int gap, .retAddr 0, .retAddr 0] [] _ _ _
  refine jx_T.step (pc' := 1) (st' := [_]) rfl rfl ?_
  refine jx_T.step (pc' := 2) (st' := [_, _]) rfl rfl ?_
  refine cl.v1I (hc_imm (h1).1 (h1).2) rfl (by decide) rfl ⟨Nat.le_of_ble_eq_true rfl, rfl⟩ (Nat.le_of_ble_eq_true rfl) (kc_topLevel W nx s im0 gap) ?_
  refine jx_T.step (pc' := 6) (ls' := [_, _, _, _, _]) (st' := []) rfl rfl ?_
  refine jx_T.step (pc' := 7) (st' := [_]) rfl rfl ?_
  refine jx_T.step (pc' := 8) (st' := [_, _]) rfl rfl ?_
  refine cl.v1V (hc_fix 4 (by decide) (cw_c4 _)) rfl (by decide) rfl ⟨Nat.le_of_ble_eq_true rfl, rfl⟩ (Nat.le_of_ble_eq_true rfl) (c1) ?_
  refine jx_T.step (pc' := 12) (st' := [_]) rfl rfl ?_
  refine jx_T.step (pc' := 14) (ls' := [_, _, _, _, _]) (st' := []) rfl rfl ?_
  exact gg
def kl_20 (W : cw) (L : List Int32) : Prop := W.2.2.1 20 1 = nI L.length ∧ lv_of (W.1 21) L.length = L
def kf_20 (W W2 : cw) : Prop := (∀ k, k ≠ 21 → W2.1 k = W.1 k) ∧ W2.2.1 = W.2.1 ∧ (∀ k y, ¬ (k = 20 ∧ y = 1) → W2.2.2.1 k y = W.2.2.1 k y) ∧ W2.2.2.2 = W.2.2.2
theorem kf_20.rf {W : cw} : kf_20 W W := ⟨fun _ _ => rfl, rfl, fun _ _ _ => rfl, rfl⟩
theorem kf_20.tr {W W2 W3 : cw} (a : kf_20 W W2) (b : kf_20 W2 W3) : kf_20 W W3 := ⟨fun k h => (b.1 k h).trans (a.1 k h), b.2.1.trans a.2.1, fun k y h => (b.2.2.1 k y h).trans (a.2.2.1 k y h), b.2.2.2.trans a.2.2.2⟩
theorem kl_20.get {W : cw} {L : List Int32} (h : kl_20 W L) (k : Nat) (hk : k < L.length) : W.1 21 k = L.getD k 0 := by
  rw [← lv_of_get (W.1 21) L.length k hk, h.2]
theorem kc_ins20 (W : cw) (g : Nat → Option jx_E) (nx s : Nat) (L : List Int32) (kl : kl_20 W L) (hL : L.length < 110) (v : Int32) : ∃ W2, jx_T 26 0 (jx_ent 26 [.ref 20, .int v]) [] (hc W g nx s) none (hc W2 g nx s) ∧ kl_20 W2 (lv_ins v L) ∧ kf_20 W W2 := by
  refine ⟨kw_add20 W L.length v, kc_add20 W g nx s L.length hL kl.1 v, ?_, ?_⟩
  · have h := lv_insF (W.1 21) L.length v
    unfold kw_add20
    rw [kl.2] at h
    by_cases z : rf_pos (W.1 21) v L.length 0 < L.length ∧ W.1 21 (rf_pos (W.1 21) v L.length 0) = v
    · rw [if_pos z] at h ⊢
      rw [← h]
      exact kl
    · rw [if_neg z] at h ⊢
      have hl : (lv_ins v L).length = L.length + 1 := by rw [← h, lv_of_len]
      unfold kl_20
      rw [hl]
      exact ⟨rfl, h⟩
  · unfold kw_add20
    split
    · exact kf_20.rf
    · exact ⟨fun k h => if_neg h, rfl, fun k y h => if_neg h, rfl⟩
theorem kc_all20 (W : cw) {g : Nat → Option jx_E} (nx s : Nat) {a : Nat} {S : sv} (im : im_str g a S) (hn : sv_n S ≤ 8) (gap : Int32) (L : List Int32) (kl : kl_20 W L) (hL : L.length + sv_n S < 110) : ∃ W2, jx_T 25 0 (jx_ent 25 [.ref 20, .ref a, .int gap]) [] (hc W g nx s) none (hc W2 g nx s) ∧ kl_20 W2 (lv_all L (sv_ls S gap (sv_n S + 1))) ∧ kf_20 W W2 := by
  have im0 := im
  obtain ⟨ad, af, h1, h2, h3⟩ := im
  have loop : ∀ d i W1, i + d = sv_n S → kl_20 W1 (lv_all L (sv_ls S gap (i + 1))) → kf_20 W W1 → ∃ W2, (kl_20 W2 (lv_all L (sv_ls S gap (sv_n S + 1))) ∧ kf_20 W W2) ∧ jx_T 25 14 [.ref 20, .ref a, .int gap, .int (sv_lv S gap i), .int (nI i)] [] (hc W1 g nx s) none (hc W2 g nx s) := by
    intro d
    induction d with
    | zero =>
      intro i W1 hi k1 f1
      obtain rfl : i = sv_n S := by omega
      refine ⟨W1, ⟨k1, f1⟩, ?_⟩
      refine jx_T.step (pc' := 16) (st' := [_]) rfl rfl ?_
      refine jx_T.step (pc' := 17) (st' := [_, _]) rfl rfl ?_
      refine cl.geti (h1).1 (h1).2 rfl rfl ?_
      refine cl.aleni (h2).1 (h2).2 rfl (Or.inl (by decide)) ?_
      refine cl.bc rfl (jx_br_ge _ _) (fun _ => ?_) (fun zq => absurd (Int32.le_refl _) zq)
      exact jx_T.ret rfl rfl
    | succ d ih =>
      intro i W1 hi k1 f1
      have hl := lv_all_len (sv_ls S gap (i + 1)) L
      rw [sv_ls_len] at hl
      obtain ⟨W2, c2, k2, f2⟩ := kc_ins20 W1 g nx s _ k1 (by omega) (sv_lv S gap (i + 1))
      have e : lv_ins (sv_lv S gap (i + 1)) (lv_all L (sv_ls S gap (i + 1))) = lv_all L (sv_ls S gap (i + 1 + 1)) := by
        unfold sv_ls
        rw [lv_r1 (sv_lv S gap) (i + 1), lv_all_s]
      rw [e] at k2
      obtain ⟨W3, f3, gg⟩ := ih (i + 1) W2 (by omega) k2 (f1.tr f2)
      refine ⟨W3, f3, ?_⟩
      refine jx_T.step (pc' := 16) (st' := [_]) rfl rfl ?_
      refine jx_T.step (pc' := 17) (st' := [_, _]) rfl rfl ?_
      refine cl.geti (h1).1 (h1).2 rfl rfl ?_
      refine cl.aleni (h2).1 (h2).2 rfl (Or.inl (by decide)) ?_
      refine cl.bc rfl (jx_br_ge _ _) (fun zq => absurd zq (nI_ge (by omega) (by omega))) (fun _ => ?_)
      refine jx_T.step (pc' := 25) (st' := [_]) rfl rfl ?_
      refine jx_T.step (pc' := 26) (st' := [_, _]) rfl rfl ?_
      refine cl.geti (h1).1 (h1).2 rfl rfl ?_
      refine jx_T.step (pc' := 31) (st' := [_, _, _]) rfl rfl ?_
      refine cl.ialdi (h2).1 (h2).2 rfl (rf_ix (by omega) (by omega)) ?_
      rw [nI_clamp (by omega)]
      refine jx_T.step (pc' := 33) (st' := [_]) rfl rfl ?_
      refine jx_T.step (pc' := 34) (ls' := [_, _, _, _, _]) (st' := []) rfl rfl ?_
      refine jx_T.step (pc' := 35) (st' := [_]) rfl rfl ?_
      refine jx_T.step (pc' := 36) (st' := [_, _]) rfl rfl ?_
      refine cl.v1V (hc_fix 20 (by decide) (cw_c20 _)) rfl (by decide) rfl ⟨Nat.le_of_ble_eq_true rfl, rfl⟩ (Nat.le_of_ble_eq_true rfl) (c2) ?_
      refine jx_T.step (pc' := 42) (ls' := [_, _, _, _, _]) (st' := []) rfl rfl ?_
      refine jx_T.step (pc' := 14) (st' := []) rfl rfl ?_
      rw [nI_1]
      exact gg
  obtain ⟨W1, c1, k1, f1⟩ := kc_ins20 W g nx s L kl (by omega) (sv_top S gap)
  obtain ⟨W2, ⟨k2, f2⟩, gg⟩ := loop (sv_n S) 0 W1 (by omega) k1 f1
  refine ⟨W2, ?_, k2, f2⟩
  show jx_T 25 0 [.ref 20, .ref a, .int gap, .retAddr 0, .retAddr 0] [] _ _ _
  refine jx_T.step (pc' := 1) (st' := [_]) rfl rfl ?_
  refine jx_T.step (pc' := 2) (st' := [_, _]) rfl rfl ?_
  refine cl.v1I (hc_imm (h1).1 (h1).2) rfl (by decide) rfl ⟨Nat.le_of_ble_eq_true rfl, rfl⟩ (Nat.le_of_ble_eq_true rfl) (kc_topLevel W nx s im0 gap) ?_
  refine jx_T.step (pc' := 6) (ls' := [_, _, _, _, _]) (st' := []) rfl rfl ?_
  refine jx_T.step (pc' := 7) (st' := [_]) rfl rfl ?_
  refine jx_T.step (pc' := 8) (st' := [_, _]) rfl rfl ?_
  refine cl.v1V (hc_fix 20 (by decide) (cw_c20 _)) rfl (by decide) rfl ⟨Nat.le_of_ble_eq_true rfl, rfl⟩ (Nat.le_of_ble_eq_true rfl) (c1) ?_
  refine jx_T.step (pc' := 12) (st' := [_]) rfl rfl ?_
  refine jx_T.step (pc' := 14) (ls' := [_, _, _, _, _]) (st' := []) rfl rfl ?_
  exact gg
