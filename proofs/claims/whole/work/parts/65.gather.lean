/-! a state, as its object tells it; the cascade -/
abbrev shv : Type := Int32 × Nat × (Nat → Int32)
abbrev nev : Type := Nat × (Nat → Int32) × (Nat → Int32) × (Nat → Int32)
abbrev tv : Type := Int32 × Nat × (Nat → sv) × (Nat → Option shv) × (Nat → nev) × (Nat → Int32)
def im_sh (g : Nat → Option jx_E) (a : Nat) (X : shv) : Prop := ∃ b, (35 ≤ a ∧ g a = some (.inr (8, [.int X.1, .ref b]))) ∧ (35 ≤ b ∧ g b = some (.inl (0, X.2.1, .inl X.2.2)))
def im_net (g : Nat → Option jx_E) (a : Nat) (X : nev) : Prop := ∃ b c d, (35 ≤ a ∧ g a = some (.inr (4, [.int (nI X.1), .ref b, .ref c, .ref d]))) ∧ (35 ≤ b ∧ g b = some (.inl (0, X.1, .inl X.2.1))) ∧ (35 ≤ c ∧ g c = some (.inl (0, X.1, .inl X.2.2.1))) ∧ (35 ≤ d ∧ g d = some (.inl (0, X.1, .inl X.2.2.2)))
def im_sta (g : Nat → Option jx_E) (a : Nat) (T : tv) : Prop := ∃ s1 s2 s3 s4 f1 f2 f3, (35 ≤ a ∧ g a = some (.inr (9, [.int T.1, .int (nI T.2.1), .ref s1, .ref s2, .ref s3, .ref s4]))) ∧ (35 ≤ s1 ∧ g s1 = some (.inl (7, 12, .inr (.inr (.inr (.inr f1)))))) ∧ (∀ i, i < T.2.1 → ∃ b, f1 i = some b ∧ im_str g b (T.2.2.1 i)) ∧ (35 ≤ s2 ∧ g s2 = some (.inl (5, 8, .inr (.inr (.inr (.inr f2)))))) ∧ (∀ k, k < 8 → (T.2.2.2.1 k = none ∧ f2 k = none) ∨ ∃ X b, T.2.2.2.1 k = some X ∧ f2 k = some b ∧ im_sh g b X) ∧ (35 ≤ s3 ∧ g s3 = some (.inl (4, 4, .inr (.inr (.inr (.inr f3)))))) ∧ (∀ k, k < 4 → ∃ b, f3 k = some b ∧ im_net g b (T.2.2.2.2.1 k)) ∧ (35 ≤ s4 ∧ g s4 = some (.inl (0, 12, .inl T.2.2.2.2.2)))
/-- what is asked of a state's streams -/
def tv_ok (T : tv) : Prop := T.2.1 ≤ 12 ∧ ∀ i, i < T.2.1 → sv_n (T.2.2.1 i) ≤ 8
abbrev sv_is (S : sv) (w : Int32) : Prop := ¬ (S.1 = 3 ∨ S.1 = 4) ∧ (w = 3 ∨ w = S.2.2.1)
def tg_L (T : tv) (w : Int32) : Nat → List Int32
  | 0 => []
  | i + 1 => if sv_is (T.2.2.1 i) w then lv_all (tg_L T w i) (sv_ls (T.2.2.1 i) T.1 (sv_n (T.2.2.1 i) + 1)) else tg_L T w i
theorem tg_len {T : tv} (ok : tv_ok T) (w : Int32) : ∀ i, i ≤ T.2.1 → (tg_L T w i).length ≤ 9 * i
  | 0, _ => Nat.le_refl 0
  | i + 1, hi => by
    have h1 := tg_len ok w i (by omega)
    have h2 := ok.2 i (by omega)
    unfold tg_L
    split
    · have h3 := lv_all_len (sv_ls (T.2.2.1 i) T.1 (sv_n (T.2.2.1 i) + 1)) (tg_L T w i)
      rw [sv_ls_len] at h3
      omega
    · omega
theorem kc_gather (W : cw) {g : Nat → Option jx_E} (nx s : Nat) {a : Nat} {T : tv} (im : im_sta g a T) (ok : tv_ok T) (w : Int32) : ∃ W2, jx_T 2 0 (jx_ent 2 [.ref 3, .ref a, .int w]) [] (hc W g nx s) none (hc W2 g nx s) ∧ kl_4 W2 (tg_L T w T.2.1) ∧ kf_4 W W2 := by
  obtain ⟨s1, s2, s3, s4, f1, f2, f3, h1, h2, h3, -⟩ := im
  have hM := ok.1
  have loop : ∀ d i W1, i + d = T.2.1 → kl_4 W1 (tg_L T w i) → kf_4 W W1 → ∃ W2, (kl_4 W2 (tg_L T w T.2.1) ∧ kf_4 W W2) ∧ jx_T 2 10 [.ref 3, .ref a, .int w, .int (nI i)] [] (hc W1 g nx s) none (hc W2 g nx s) := by
    intro d
    induction d with
    | zero =>
      intro i W1 hi k1 f1
      refine ⟨W1, ⟨by rw [← show i = T.2.1 by omega]; exact k1, f1⟩, ?_⟩
      refine jx_T.step (pc' := 11) (st' := [_]) rfl rfl ?_
      refine jx_T.step (pc' := 12) (st' := [_, _]) rfl rfl ?_
      refine cl.geti (h1).1 (h1).2 rfl rfl ?_
      rw [show i = T.2.1 by omega]
      refine cl.bc rfl (jx_br_ge _ _) (fun _ => ?_) (fun zq => absurd (Int32.le_refl _) zq)
      exact jx_T.ret rfl rfl
    | succ d ih =>
      intro i W1 hi k1 fr
      obtain ⟨b, e1, imb⟩ := h3 i (by omega)
      have imb0 := imb
      obtain ⟨ad, af, q1, q2, q3⟩ := imb
      have co := kc_isOf W1 nx s imb0 w
      by_cases z : sv_is (T.2.2.1 i) w
      · have hl := tg_len ok w i (by omega)
        have hn := ok.2 i (by omega)
        obtain ⟨W2, c2, k2, fr2⟩ := kc_all4 W1 nx s imb0 hn T.1 _ k1 (by omega)
        have e : lv_all (tg_L T w i) (sv_ls (T.2.2.1 i) T.1 (sv_n (T.2.2.1 i) + 1)) = tg_L T w (i + 1) := by
          rw [tg_L, if_pos z]
        rw [e] at k2
        obtain ⟨W3, f3, gg⟩ := ih (i + 1) W2 (by omega) k2 (fr.tr fr2)
        refine ⟨W3, f3, ?_⟩
        refine jx_T.step (pc' := 11) (st' := [_]) rfl rfl ?_
        refine jx_T.step (pc' := 12) (st' := [_, _]) rfl rfl ?_
        refine cl.geti (h1).1 (h1).2 rfl rfl ?_
        refine cl.bc rfl (jx_br_ge _ _) (fun zq => absurd zq (nI_ge (by omega) (by omega))) (fun _ => ?_)
        refine jx_T.step (pc' := 19) (st' := [_]) rfl rfl ?_
        refine cl.geti (h1).1 (h1).2 rfl rfl ?_
        refine jx_T.step (pc' := 23) (st' := [_, _]) rfl rfl ?_
        refine cl.aaldi (h2).1 (h2).2 rfl (by decide) (rf_ix (by omega) (by decide)) ?_
        rw [nI_clamp (by omega), e1]
        refine jx_T.step (pc' := 25) (st' := [_, _]) rfl rfl ?_
        refine cl.v1I (hc_imm (q1).1 (q1).2) rfl (by decide) rfl ⟨Nat.le_of_ble_eq_true rfl, rfl⟩ (Nat.le_of_ble_eq_true rfl) (co) ?_
        refine cl.br rfl (jx_br_eq _ _) (fun zq => absurd zq (fun q => (rf_o_0 _).mp q z)) (fun _ => ?_)
        refine jx_T.step (pc' := 32) (st' := [_]) rfl rfl ?_
        refine cl.get 3 (by decide) rfl (cw_c3 _) rfl ?_
        refine jx_T.step (pc' := 36) (st' := [_, _]) rfl rfl ?_
        refine cl.geti (h1).1 (h1).2 rfl rfl ?_
        refine jx_T.step (pc' := 40) (st' := [_, _, _]) rfl rfl ?_
        refine cl.aaldi (h2).1 (h2).2 rfl (by decide) (rf_ix (by omega) (by decide)) ?_
        rw [nI_clamp (by omega), e1]
        refine jx_T.step (pc' := 42) (st' := [_, _, _]) rfl rfl ?_
        refine cl.geti (h1).1 (h1).2 rfl rfl ?_
        refine cl.v2V (hc_fix 4 (by decide) (cw_c4 _)) rfl (by decide) rfl ⟨Nat.le_of_ble_eq_true rfl, rfl⟩ (Nat.le_of_ble_eq_true rfl) (c2) ?_
        refine jx_T.step (pc' := 51) (ls' := [_, _, _, _]) (st' := []) rfl rfl ?_
        refine jx_T.step (pc' := 10) (st' := []) rfl rfl ?_
        rw [nI_1]
        exact gg
      · have e : tg_L T w i = tg_L T w (i + 1) := by rw [tg_L, if_neg z]
        rw [e] at k1
        obtain ⟨W3, f3, gg⟩ := ih (i + 1) W1 (by omega) k1 fr
        refine ⟨W3, f3, ?_⟩
        refine jx_T.step (pc' := 11) (st' := [_]) rfl rfl ?_
        refine jx_T.step (pc' := 12) (st' := [_, _]) rfl rfl ?_
        refine cl.geti (h1).1 (h1).2 rfl rfl ?_
        refine cl.bc rfl (jx_br_ge _ _) (fun zq => absurd zq (nI_ge (by omega) (by omega))) (fun _ => ?_)
        refine jx_T.step (pc' := 19) (st' := [_]) rfl rfl ?_
        refine cl.geti (h1).1 (h1).2 rfl rfl ?_
        refine jx_T.step (pc' := 23) (st' := [_, _]) rfl rfl ?_
        refine cl.aaldi (h2).1 (h2).2 rfl (by decide) (rf_ix (by omega) (by decide)) ?_
        rw [nI_clamp (by omega), e1]
        refine jx_T.step (pc' := 25) (st' := [_, _]) rfl rfl ?_
        refine cl.v1I (hc_imm (q1).1 (q1).2) rfl (by decide) rfl ⟨Nat.le_of_ble_eq_true rfl, rfl⟩ (Nat.le_of_ble_eq_true rfl) (co) ?_
        refine cl.br rfl (jx_br_eq _ _) (fun _ => ?_) (fun zq => absurd ((rf_o_0 _).mpr z) zq)
        refine jx_T.step (pc' := 51) (ls' := [_, _, _, _]) (st' := []) rfl rfl ?_
        refine jx_T.step (pc' := 10) (st' := []) rfl rfl ?_
        rw [nI_1]
        exact gg
  obtain ⟨W2, ⟨k2, fr2⟩, gg⟩ := loop T.2.1 0 (cw_I W 4 1 0) (by omega) ⟨rfl, rfl⟩ ⟨fun _ _ => rfl, rfl, fun k y h => if_neg h, rfl⟩
  refine ⟨W2, ?_, k2, fr2⟩
  show jx_T 2 0 [.ref 3, .ref a, .int w, .retAddr 0] [] _ _ _
  refine jx_T.step (pc' := 1) (st' := [_]) rfl rfl ?_
  refine cl.get 3 (by decide) rfl (cw_c3 _) rfl ?_
  refine jx_T.step (pc' := 5) (st' := [_, _]) rfl rfl ?_
  refine cl.put 4 (by decide) rfl (cw_c4 _) (Nat.le_of_ble_eq_true rfl) rfl (cw_f4_1 _ _) ?_
  refine jx_T.step (pc' := 9) (st' := [_]) rfl rfl ?_
  refine jx_T.step (pc' := 10) (ls' := [_, _, _, _]) (st' := []) rfl rfl ?_
  exact gg
/-- one stream at one level -/
def sv_sg (S : sv) : Int32 := if sv_hot S = 0 then -1 else 1
abbrev sv_sd (S : sv) (gap lv : Int32) : Prop := sv_n S = 0 ∧ sv_top S gap = lv
def lv_dp (L : List Int32) (k : Nat) : Int32 := if k + 1 < L.length then L.getD k 0 - L.getD (k + 1) 0 else 0
def sv_ad (S : sv) (gap : Int32) (L : List Int32) (k : Nat) : Int64 := (sv_sg S).toInt64 * (sv_fb S gap (L.getD k 0)).toInt64 * (lv_dp L k).toInt64
theorem kc_addStream (W : cw) {g : Nat → Option jx_E} (nx s : Nat) {a : Nat} {S : sv} (im : im_str g a S) (hn : sv_n S ≤ 8) (gap : Int32) (L : List Int32) (kl : kl_4 W L) (hL : L.length ≤ 110) (k : Nat) (hk : k < L.length) : jx_T 4 0 (jx_ent 4 [.ref 3, .ref a, .int gap, .int (nI k)]) [] (hc W g nx s) none (hc (if sv_sd S gap (L.getD k 0) then cw_B W 6 (vp_updL (W.2.1 6) k (W.2.1 6 k + (sv_sg S * sv_am S).toInt64)) else cw_B W 7 (vp_updL (W.2.1 7) k (W.2.1 7 k + sv_ad S gap L k))) g nx s) := by
  have cs := kc_standsAt W nx s im hn gap (L.getD k 0)
  have cf := kc_flowBelow W nx s im hn gap (L.getD k 0)
  have cd := kc_depth4 W g nx s L.length (by omega) kl.1 k (by omega)
  have ed : (if k + 1 < L.length then W.1 5 k - W.1 5 (k + 1) else 0) = lv_dp L k := by
    unfold lv_dp
    by_cases z : k + 1 < L.length
    · rw [if_pos z, if_pos z, kl.get k hk, kl.get (k + 1) z]
    · rw [if_neg z, if_neg z]
  rw [ed] at cd
  have er := kl.get k hk
  obtain ⟨ad, af, h1, h2, h3⟩ := im
  show jx_T 4 0 [.ref 3, .ref a, .int gap, .int (nI k), .retAddr 0] [] _ _ _
  have t12 : ∀ sg, sg = sv_sg S → jx_T 4 12 [.ref 3, .ref a, .int gap, .int (nI k), .retAddr 0] [.int sg] (hc W g nx s) none (hc (if sv_sd S gap (L.getD k 0) then cw_B W 6 (vp_updL (W.2.1 6) k (W.2.1 6 k + (sv_sg S * sv_am S).toInt64)) else cw_B W 7 (vp_updL (W.2.1 7) k (W.2.1 7 k + sv_ad S gap L k))) g nx s) := by
    intro sg esg
    refine jx_T.step (pc' := 14) (ls' := [_, _, _, _, _]) (st' := []) rfl rfl ?_
    refine jx_T.step (pc' := 15) (st' := [_]) rfl rfl ?_
    refine jx_T.step (pc' := 16) (st' := [_, _]) rfl rfl ?_
    refine jx_T.step (pc' := 17) (st' := [_, _, _]) rfl rfl ?_
    refine cl.get 3 (by decide) rfl (cw_c3 _) rfl ?_
    refine cl.get 4 (by decide) rfl (cw_c4 _) rfl ?_
    refine jx_T.step (pc' := 24) (st' := [_, _, _, _]) rfl rfl ?_
    refine cl.iald 5 (by decide) rfl (cw_c5 _) (rf_ix (by omega) (by decide)) ?_
    rw [nI_clamp (by omega), er]
    refine cl.v2I (hc_imm (h1).1 (h1).2) rfl (by decide) rfl ⟨Nat.le_of_ble_eq_true rfl, rfl⟩ (Nat.le_of_ble_eq_true rfl) (cs) ?_
    by_cases z : sv_sd S gap (L.getD k 0)
    · rw [if_pos z]
      refine cl.br rfl (jx_br_eq _ _) (fun zq => absurd zq (fun q => (rf_o_0 _).mp q z)) (fun _ => ?_)
      refine jx_T.step (pc' := 32) (st' := [_]) rfl rfl ?_
      refine cl.get 3 (by decide) rfl (cw_c3 _) rfl ?_
      refine jx_T.step (pc' := 36) (st' := [_, _]) rfl rfl ?_
      refine jx_T.step (pc' := 37) (st' := [_, _, _, _]) rfl rfl ?_
      refine cl.lald 6 (by decide) rfl (cw_c6 _) (rf_ix (by omega) (by decide)) ?_
      refine jx_T.step (pc' := 40) (st' := [_, _, _, _]) rfl rfl ?_
      refine jx_T.step (pc' := 41) (st' := [_, _, _, _, _]) rfl rfl ?_
      refine cl.geti (h1).1 (h1).2 rfl rfl ?_
      refine jx_T.step (pc' := 45) (st' := [_, _, _, _]) rfl rfl ?_
      refine jx_T.step (pc' := 46) (st' := [_, _, _, _]) rfl rfl ?_
      refine jx_T.step (pc' := 47) (st' := [_, _, _]) rfl rfl ?_
      rw [nI_clamp (by omega), esg]
      refine cl.last 6 (by decide) rfl (cw_c6 _) (cw_s6 _) (rf_ix (by omega) (by decide)) ?_
      rw [nI_clamp (by omega)]
      refine jx_T.step (pc' := 89) (st' := []) rfl rfl ?_
      exact jx_T.ret rfl rfl
    · rw [if_neg z]
      refine cl.br rfl (jx_br_eq _ _) (fun _ => ?_) (fun zq => absurd ((rf_o_0 _).mpr z) zq)
      refine jx_T.step (pc' := 52) (st' := [_]) rfl rfl ?_
      refine cl.get 3 (by decide) rfl (cw_c3 _) rfl ?_
      refine jx_T.step (pc' := 56) (st' := [_, _]) rfl rfl ?_
      refine jx_T.step (pc' := 57) (st' := [_, _, _, _]) rfl rfl ?_
      refine cl.lald 7 (by decide) rfl (cw_c7 _) (rf_ix (by omega) (by decide)) ?_
      refine jx_T.step (pc' := 60) (st' := [_, _, _, _]) rfl rfl ?_
      refine jx_T.step (pc' := 61) (st' := [_, _, _, _]) rfl rfl ?_
      refine jx_T.step (pc' := 62) (st' := [_, _, _, _, _]) rfl rfl ?_
      refine jx_T.step (pc' := 63) (st' := [_, _, _, _, _, _]) rfl rfl ?_
      refine jx_T.step (pc' := 64) (st' := [_, _, _, _, _, _, _]) rfl rfl ?_
      refine cl.get 3 (by decide) rfl (cw_c3 _) rfl ?_
      refine cl.get 4 (by decide) rfl (cw_c4 _) rfl ?_
      refine jx_T.step (pc' := 71) (st' := [_, _, _, _, _, _, _, _]) rfl rfl ?_
      refine cl.iald 5 (by decide) rfl (cw_c5 _) (rf_ix (by omega) (by decide)) ?_
      rw [nI_clamp (by omega), er, esg]
      refine cl.v2I (hc_imm (h1).1 (h1).2) rfl (by decide) rfl ⟨Nat.le_of_ble_eq_true rfl, rfl⟩ (Nat.le_of_ble_eq_true rfl) (cf) ?_
      refine jx_T.step (pc' := 76) (st' := [_, _, _, _, _]) rfl rfl ?_
      refine jx_T.step (pc' := 77) (st' := [_, _, _, _]) rfl rfl ?_
      refine jx_T.step (pc' := 78) (st' := [_, _, _, _, _]) rfl rfl ?_
      refine cl.get 3 (by decide) rfl (cw_c3 _) rfl ?_
      refine jx_T.step (pc' := 82) (st' := [_, _, _, _, _, _]) rfl rfl ?_
      refine cl.v1I (hc_fix 4 (by decide) (cw_c4 _)) rfl (by decide) rfl ⟨Nat.le_of_ble_eq_true rfl, rfl⟩ (Nat.le_of_ble_eq_true rfl) (cd) ?_
      refine jx_T.step (pc' := 86) (st' := [_, _, _, _, _]) rfl rfl ?_
      refine jx_T.step (pc' := 87) (st' := [_, _, _, _]) rfl rfl ?_
      refine jx_T.step (pc' := 88) (st' := [_, _, _]) rfl rfl ?_
      refine cl.last 7 (by decide) rfl (cw_c7 _) (cw_s7 _) (rf_ix (by omega) (by decide)) ?_
      rw [nI_clamp (by omega)]
      exact jx_T.ret rfl rfl
  refine jx_T.step (pc' := 1) (st' := [_]) rfl rfl ?_
  refine cl.geti (h1).1 (h1).2 rfl rfl ?_
  by_cases y : sv_hot S = 0
  · refine cl.br rfl (jx_br_eq _ _) (fun _ => ?_) (fun zq => absurd (y) zq)
    refine jx_T.step (pc' := 12) (st' := [_]) rfl rfl ?_
    exact t12 (-1) (if_pos y).symm
  · refine cl.br rfl (jx_br_eq _ _) (fun zq => absurd zq (y)) (fun _ => ?_)
    refine jx_T.step (pc' := 8) (st' := [_]) rfl rfl ?_
    refine jx_T.step (pc' := 12) (st' := [_]) rfl rfl ?_
    exact t12 1 (if_neg y).symm
/-- what stands at a level, what lies below it -/
def cs_s (T : tv) (w : Int32) (L : List Int32) (k : Nat) : Nat → Int64
  | 0 => 0
  | i + 1 => if sv_is (T.2.2.1 i) w ∧ sv_sd (T.2.2.1 i) T.1 (L.getD k 0) then cs_s T w L k i + (sv_sg (T.2.2.1 i) * sv_am (T.2.2.1 i)).toInt64 else cs_s T w L k i
def cs_l (T : tv) (w : Int32) (L : List Int32) (k : Nat) : Nat → Int64
  | 0 => 0
  | i + 1 => if sv_is (T.2.2.1 i) w ∧ ¬ sv_sd (T.2.2.1 i) T.1 (L.getD k 0) then cs_l T w L k i + sv_ad (T.2.2.1 i) T.1 L k else cs_l T w L k i
/-- all but stills and layers stays -/
def kb_f (W W2 : cw) : Prop := W2.1 = W.1 ∧ (∀ k, k ≠ 6 → k ≠ 7 → W2.2.1 k = W.2.1 k) ∧ W2.2.2 = W.2.2
theorem kb_f.rf {W : cw} : kb_f W W := ⟨rfl, fun _ _ _ => rfl, rfl⟩
theorem kb_f.tr {W W2 W3 : cw} (a : kb_f W W2) (b : kb_f W2 W3) : kb_f W W3 := ⟨b.1.trans a.1, fun k h g => (b.2.1 k h g).trans (a.2.1 k h g), b.2.2.trans a.2.2⟩
theorem kb_f.B {W : cw} {k : Nat} {f : Nat → Int64} (h : k = 6 ∨ k = 7) : kb_f W (cw_B W k f) := ⟨rfl, fun j h1 h2 => if_neg (by omega), rfl⟩
theorem kb_f.kl {W W2 : cw} {L : List Int32} (a : kb_f W W2) (h : kl_4 W L) : kl_4 W2 L := by
  unfold kl_4
  rw [a.1, a.2.2]
  exact h
theorem kc_fill (W : cw) {g : Nat → Option jx_E} (nx s : Nat) {a : Nat} {T : tv} (im : im_sta g a T) (ok : tv_ok T) (w : Int32) (L : List Int32) (kl : kl_4 W L) (hL : L.length ≤ 110) : ∃ W2, jx_T 3 0 (jx_ent 3 [.ref 3, .ref a, .int w]) [] (hc W g nx s) none (hc W2 g nx s) ∧ kb_f W W2 ∧ ∀ k, k < L.length → W2.2.1 6 k = cs_s T w L k T.2.1 ∧ W2.2.1 7 k = cs_l T w L k T.2.1 := by
  obtain ⟨s1, s2, s3, s4, f1, f2, f3, h1, h2, h3, -⟩ := im
  have hM := ok.1
  -- one level
  have inner : ∀ k, k < L.length → ∀ (Fin : cw → Prop), (∀ W2, kb_f W W2 → (∀ j, j ≤ k → W2.2.1 6 j = cs_s T w L j T.2.1 ∧ W2.2.1 7 j = cs_l T w L j T.2.1) → ∃ W3, Fin W3 ∧ jx_T 3 75 [.ref 3, .ref a, .int w, .int (nI k), .int (nI T.2.1)] [] (hc W2 g nx s) none (hc W3 g nx s)) → ∀ d i W1, i + d = T.2.1 → kb_f W W1 → (∀ j, j < k → W1.2.1 6 j = cs_s T w L j T.2.1 ∧ W1.2.1 7 j = cs_l T w L j T.2.1) → W1.2.1 6 k = cs_s T w L k i → W1.2.1 7 k = cs_l T w L k i → ∃ W3, Fin W3 ∧ jx_T 3 30 [.ref 3, .ref a, .int w, .int (nI k), .int (nI i)] [] (hc W1 g nx s) none (hc W3 g nx s) := by
    intro k hk Fin K d
    induction d with
    | zero =>
      intro i W1 hi fr lo e6 e7
      obtain rfl : i = T.2.1 := by omega
      obtain ⟨W3, f, gg⟩ := K W1 fr (fun j hj => by
        by_cases q : j = k
        · rw [q]
          exact ⟨e6, e7⟩
        · exact lo j (by omega))
      refine ⟨W3, f, ?_⟩
      refine jx_T.step (pc' := 32) (st' := [_]) rfl rfl ?_
      refine jx_T.step (pc' := 33) (st' := [_, _]) rfl rfl ?_
      refine cl.geti (h1).1 (h1).2 rfl rfl ?_
      refine cl.bc rfl (jx_br_ge _ _) (fun _ => ?_) (fun zq => absurd (Int32.le_refl _) zq)
      exact gg
    | succ d ih =>
      intro i W1 hi fr lo e6 e7
      obtain ⟨b, e1, imb⟩ := h3 i (by omega)
      have imb0 := imb
      obtain ⟨ad, af, q1, q2, q3⟩ := imb
      have hn := ok.2 i (by omega)
      have co := kc_isOf W1 nx s imb0 w
      have eS : cs_s T w L k (i + 1) = if sv_is (T.2.2.1 i) w ∧ sv_sd (T.2.2.1 i) T.1 (L.getD k 0) then cs_s T w L k i + (sv_sg (T.2.2.1 i) * sv_am (T.2.2.1 i)).toInt64 else cs_s T w L k i := rfl
      have eL : cs_l T w L k (i + 1) = if sv_is (T.2.2.1 i) w ∧ ¬ sv_sd (T.2.2.1 i) T.1 (L.getD k 0) then cs_l T w L k i + sv_ad (T.2.2.1 i) T.1 L k else cs_l T w L k i := rfl
      by_cases z : sv_is (T.2.2.1 i) w
      · have ca := kc_addStream W1 nx s imb0 hn T.1 L (fr.kl kl) hL k hk
        have nx2 : ∃ W3, Fin W3 ∧ jx_T 3 30 [.ref 3, .ref a, .int w, .int (nI k), .int (nI (i + 1))] [] (hc (if sv_sd (T.2.2.1 i) T.1 (L.getD k 0) then cw_B W1 6 (vp_updL (W1.2.1 6) k (W1.2.1 6 k + (sv_sg (T.2.2.1 i) * sv_am (T.2.2.1 i)).toInt64)) else cw_B W1 7 (vp_updL (W1.2.1 7) k (W1.2.1 7 k + sv_ad (T.2.2.1 i) T.1 L k))) g nx s) none (hc W3 g nx s) := by
          by_cases y : sv_sd (T.2.2.1 i) T.1 (L.getD k 0)
          · rw [if_pos y]
            rw [if_pos ⟨z, y⟩] at eS
            rw [if_neg (fun q => q.2 y)] at eL
            refine ih (i + 1) _ (by omega) (fr.tr (kb_f.B (Or.inl rfl))) (fun j hj => ⟨?_, (lo j hj).2⟩) ?_ ?_
            · show vp_updL (W1.2.1 6) k _ j = _
              rw [pk_uLn (by omega)]
              exact (lo j hj).1
            · show vp_updL (W1.2.1 6) k _ k = _
              rw [pk_uLs, e6, eS]
            · rw [eL]
              exact e7
          · rw [if_neg y]
            rw [if_neg (fun q => y q.2)] at eS
            rw [if_pos ⟨z, y⟩] at eL
            refine ih (i + 1) _ (by omega) (fr.tr (kb_f.B (Or.inr rfl))) (fun j hj => ⟨(lo j hj).1, ?_⟩) ?_ ?_
            · show vp_updL (W1.2.1 7) k _ j = _
              rw [pk_uLn (by omega)]
              exact (lo j hj).2
            · rw [eS]
              exact e6
            · show vp_updL (W1.2.1 7) k _ k = _
              rw [pk_uLs, e7, eL]
        obtain ⟨W3, f, gg⟩ := nx2
        refine ⟨W3, f, ?_⟩
        refine jx_T.step (pc' := 32) (st' := [_]) rfl rfl ?_
        refine jx_T.step (pc' := 33) (st' := [_, _]) rfl rfl ?_
        refine cl.geti (h1).1 (h1).2 rfl rfl ?_
        refine cl.bc rfl (jx_br_ge _ _) (fun zq => absurd zq (nI_ge (by omega) (by omega))) (fun _ => ?_)
        refine jx_T.step (pc' := 40) (st' := [_]) rfl rfl ?_
        refine cl.geti (h1).1 (h1).2 rfl rfl ?_
        refine jx_T.step (pc' := 45) (st' := [_, _]) rfl rfl ?_
        refine cl.aaldi (h2).1 (h2).2 rfl (by decide) (rf_ix (by omega) (by decide)) ?_
        rw [nI_clamp (by omega), e1]
        refine jx_T.step (pc' := 47) (st' := [_, _]) rfl rfl ?_
        refine cl.v1I (hc_imm (q1).1 (q1).2) rfl (by decide) rfl ⟨Nat.le_of_ble_eq_true rfl, rfl⟩ (Nat.le_of_ble_eq_true rfl) (co) ?_
        refine cl.br rfl (jx_br_eq _ _) (fun zq => absurd zq (fun q => (rf_o_0 _).mp q z)) (fun _ => ?_)
        refine jx_T.step (pc' := 54) (st' := [_]) rfl rfl ?_
        refine jx_T.step (pc' := 55) (st' := [_, _]) rfl rfl ?_
        refine cl.geti (h1).1 (h1).2 rfl rfl ?_
        refine jx_T.step (pc' := 60) (st' := [_, _, _]) rfl rfl ?_
        refine cl.aaldi (h2).1 (h2).2 rfl (by decide) (rf_ix (by omega) (by decide)) ?_
        rw [nI_clamp (by omega), e1]
        refine jx_T.step (pc' := 62) (st' := [_, _, _]) rfl rfl ?_
        refine cl.geti (h1).1 (h1).2 rfl rfl ?_
        refine jx_T.step (pc' := 66) (st' := [_, _, _, _]) rfl rfl ?_
        refine cl.v3V (hc_fix 3 (by decide) (cw_c3 _)) rfl (by decide) rfl ⟨Nat.le_of_ble_eq_true rfl, rfl⟩ (Nat.le_of_ble_eq_true rfl) (ca) ?_
        refine jx_T.step (pc' := 72) (ls' := [_, _, _, _, _]) (st' := []) rfl rfl ?_
        refine jx_T.step (pc' := 30) (st' := []) rfl rfl ?_
        rw [nI_1]
        exact gg
      · rw [if_neg (fun q => z q.1)] at eS eL
        obtain ⟨W3, f, gg⟩ := ih (i + 1) W1 (by omega) fr lo (by rw [eS]; exact e6) (by rw [eL]; exact e7)
        refine ⟨W3, f, ?_⟩
        refine jx_T.step (pc' := 32) (st' := [_]) rfl rfl ?_
        refine jx_T.step (pc' := 33) (st' := [_, _]) rfl rfl ?_
        refine cl.geti (h1).1 (h1).2 rfl rfl ?_
        refine cl.bc rfl (jx_br_ge _ _) (fun zq => absurd zq (nI_ge (by omega) (by omega))) (fun _ => ?_)
        refine jx_T.step (pc' := 40) (st' := [_]) rfl rfl ?_
        refine cl.geti (h1).1 (h1).2 rfl rfl ?_
        refine jx_T.step (pc' := 45) (st' := [_, _]) rfl rfl ?_
        refine cl.aaldi (h2).1 (h2).2 rfl (by decide) (rf_ix (by omega) (by decide)) ?_
        rw [nI_clamp (by omega), e1]
        refine jx_T.step (pc' := 47) (st' := [_, _]) rfl rfl ?_
        refine cl.v1I (hc_imm (q1).1 (q1).2) rfl (by decide) rfl ⟨Nat.le_of_ble_eq_true rfl, rfl⟩ (Nat.le_of_ble_eq_true rfl) (co) ?_
        refine cl.br rfl (jx_br_eq _ _) (fun _ => ?_) (fun zq => absurd ((rf_o_0 _).mpr z) zq)
        refine jx_T.step (pc' := 72) (ls' := [_, _, _, _, _]) (st' := []) rfl rfl ?_
        refine jx_T.step (pc' := 30) (st' := []) rfl rfl ?_
        rw [nI_1]
        exact gg
  have outer : ∀ d k W1 (u4 : Value), k + d = L.length → kb_f W W1 → (∀ j, j < k → W1.2.1 6 j = cs_s T w L j T.2.1 ∧ W1.2.1 7 j = cs_l T w L j T.2.1) → ∃ W3, (kb_f W W3 ∧ ∀ j, j < L.length → W3.2.1 6 j = cs_s T w L j T.2.1 ∧ W3.2.1 7 j = cs_l T w L j T.2.1) ∧ jx_T 3 2 [.ref 3, .ref a, .int w, .int (nI k), u4] [] (hc W1 g nx s) none (hc W3 g nx s) := by
    intro d
    induction d with
    | zero =>
      intro k W1 u4 hk fr lo
      obtain rfl : k = L.length := by omega
      refine ⟨W1, ⟨fr, lo⟩, ?_⟩
      have en := (fr.kl kl).1
      refine jx_T.step (pc' := 3) (st' := [_]) rfl rfl ?_
      refine jx_T.step (pc' := 4) (st' := [_, _]) rfl rfl ?_
      refine cl.get 3 (by decide) rfl (cw_c3 _) rfl ?_
      refine cl.get 4 (by decide) rfl (cw_c4 _) rfl ?_
      rw [en]
      refine cl.bc rfl (jx_br_ge _ _) (fun _ => ?_) (fun zq => absurd (Int32.le_refl _) zq)
      exact jx_T.ret rfl rfl
    | succ d ih =>
      intro k W1 u4 hk fr lo
      have en := (fr.kl kl).1
      obtain ⟨W3, f, gg⟩ := inner k (by omega) (fun W3 => kb_f W W3 ∧ ∀ j, j < L.length → W3.2.1 6 j = cs_s T w L j T.2.1 ∧ W3.2.1 7 j = cs_l T w L j T.2.1) (fun W2 fr2 lo2 => by
        obtain ⟨W3, f, gg⟩ := ih (k + 1) W2 (.int (nI T.2.1)) (by omega) fr2 (fun j hj => lo2 j (by omega))
        refine ⟨W3, f, ?_⟩
        refine jx_T.step (pc' := 78) (ls' := [_, _, _, _, _]) (st' := []) rfl rfl ?_
        refine jx_T.step (pc' := 2) (st' := []) rfl rfl ?_
        rw [nI_1]
        exact gg) T.2.1 0 (cw_B (cw_B W1 6 (vp_updL (W1.2.1 6) k 0)) 7 (vp_updL (W1.2.1 7) k 0)) (by omega) (fr.tr ((kb_f.B (Or.inl rfl)).tr (kb_f.B (Or.inr rfl)))) (fun j hj => by
        show vp_updL (W1.2.1 6) k 0 j = _ ∧ vp_updL (W1.2.1 7) k 0 j = _
        rw [pk_uLn (by omega), pk_uLn (by omega)]
        exact lo j hj) pk_uLs pk_uLs
      refine ⟨W3, f, ?_⟩
      refine jx_T.step (pc' := 3) (st' := [_]) rfl rfl ?_
      refine jx_T.step (pc' := 4) (st' := [_, _]) rfl rfl ?_
      refine cl.get 3 (by decide) rfl (cw_c3 _) rfl ?_
      refine cl.get 4 (by decide) rfl (cw_c4 _) rfl ?_
      rw [en]
      refine cl.bc rfl (jx_br_ge _ _) (fun zq => absurd zq (nI_ge (by omega) (by omega))) (fun _ => ?_)
      refine jx_T.step (pc' := 14) (st' := [_]) rfl rfl ?_
      refine cl.get 3 (by decide) rfl (cw_c3 _) rfl ?_
      refine jx_T.step (pc' := 18) (st' := [_, _]) rfl rfl ?_
      refine jx_T.step (pc' := 19) (st' := [_, _, _]) rfl rfl ?_
      refine cl.last 6 (by decide) rfl (cw_c6 _) (cw_s6 _) (rf_ix (by omega) (by decide)) ?_
      rw [nI_clamp (by omega)]
      refine jx_T.step (pc' := 21) (st' := [_]) rfl rfl ?_
      refine cl.get 3 (by decide) rfl (cw_c3 _) rfl ?_
      refine jx_T.step (pc' := 25) (st' := [_, _]) rfl rfl ?_
      refine jx_T.step (pc' := 26) (st' := [_, _, _]) rfl rfl ?_
      refine cl.last 7 (by decide) rfl (cw_c7 _) (cw_s7 _) (rf_ix (by omega) (by decide)) ?_
      rw [nI_clamp (by omega)]
      refine jx_T.step (pc' := 28) (st' := [_]) rfl rfl ?_
      refine jx_T.step (pc' := 30) (ls' := [_, _, _, _, _]) (st' := []) rfl rfl ?_
      exact gg
  obtain ⟨W3, ⟨f1, f2⟩, gg⟩ := outer L.length 0 W (.retAddr 0) (by omega) kb_f.rf (fun j hj => absurd hj (by omega))
  refine ⟨W3, ?_, f1, f2⟩
  show jx_T 3 0 [.ref 3, .ref a, .int w, .retAddr 0, .retAddr 0] [] _ _ _
  refine jx_T.step (pc' := 1) (st' := [_]) rfl rfl ?_
  refine jx_T.step (pc' := 2) (ls' := [_, _, _, _, _]) (st' := []) rfl rfl ?_
  exact gg
