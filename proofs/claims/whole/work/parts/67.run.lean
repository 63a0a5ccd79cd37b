/-! the works' cascade: run, pinches, what may be given or taken -/
theorem cf_congr {a b c d : Nat → Int64} : ∀ k, (∀ j, j < k → a j = c j ∧ b j = d j) → cf_su a b k = cf_su c d k ∧ cf_mn a b k = cf_mn c d k
  | 0, _ => ⟨rfl, rfl⟩
  | k + 1, h => by
    obtain ⟨h1, h2⟩ := cf_congr k (fun j hj => h j (by omega))
    obtain ⟨h3, h4⟩ := h k (by omega)
    unfold cf_su cf_mn
    rw [h1, h2, h3, h4]
    exact ⟨rfl, rfl⟩
/-- the cascade has run over levels L, with a standing and b lying below -/
def ca_I (W : cw) (L : List Int32) (a b : Nat → Int64) : Prop := kl_4 W L ∧ W.2.2.2.1 3 5 = -(cf_mn a b L.length) ∧ ∀ k, k < L.length → W.2.1 8 k = cf_su a b k + -(cf_mn a b L.length) ∧ W.2.1 9 k = cf_su a b k + a k + -(cf_mn a b L.length)
/-- all but the cascade stays -/
def ka_f (W W2 : cw) : Prop := (∀ k, k ≠ 5 → W2.1 k = W.1 k) ∧ (∀ k, (k < 6 ∨ 9 < k) → W2.2.1 k = W.2.1 k) ∧ (∀ k y, ¬ (k = 4 ∧ y = 1) → W2.2.2.1 k y = W.2.2.1 k y) ∧ (∀ k y, ¬ (k = 3 ∧ y = 5) → W2.2.2.2.1 k y = W.2.2.2.1 k y) ∧ W2.2.2.2.2 = W.2.2.2.2
theorem ka_f.rf {W : cw} : ka_f W W := ⟨fun _ _ => rfl, fun _ _ => rfl, fun _ _ _ => rfl, fun _ _ _ => rfl, rfl⟩
theorem ka_f.tr {W W2 W3 : cw} (a : ka_f W W2) (b : ka_f W2 W3) : ka_f W W3 := ⟨fun k h => (b.1 k h).trans (a.1 k h), fun k h => (b.2.1 k h).trans (a.2.1 k h), fun k y h => (b.2.2.1 k y h).trans (a.2.2.1 k y h), fun k y h => (b.2.2.2.1 k y h).trans (a.2.2.2.1 k y h), b.2.2.2.2.trans a.2.2.2.2⟩
theorem kf_4.A {W W2 : cw} (a : kf_4 W W2) : ka_f W W2 := ⟨a.1, fun k _ => by rw [a.2.1], a.2.2.1, fun k y _ => by rw [a.2.2.2], by rw [a.2.2.2]⟩
theorem kb_f.A {W W2 : cw} (a : kb_f W W2) : ka_f W W2 := ⟨fun k _ => by rw [a.1], fun k h => a.2.1 k (by omega) (by omega), fun k y _ => by rw [a.2.2], fun k y _ => by rw [a.2.2], by rw [a.2.2]⟩
theorem kg_f.A {W W2 : cw} (a : kg_f W W2) : ka_f W W2 := ⟨fun k _ => by rw [a.1], fun k h => a.2.1 k (by omega) (by omega), fun k y _ => by rw [a.2.2.1], a.2.2.2.1, a.2.2.2.2⟩
theorem kc_flowI (W : cw) (g : Nat → Option jx_E) (nx s : Nat) (L : List Int32) (kl : kl_4 W L) (hL : L.length ≤ 110) (a b : Nat → Int64) (hab : ∀ k, k < L.length → W.2.1 6 k = a k ∧ W.2.1 7 k = b k) : ∃ W2, jx_T 5 0 (jx_ent 5 [.ref 3]) [] (hc W g nx s) none (hc W2 g nx s) ∧ ca_I W2 L a b ∧ ka_f W W2 := by
  obtain ⟨W2, c, f, e, h⟩ := kc_flow W g nx s L kl hL
  have em := (cf_congr (a := W.2.1 6) (b := W.2.1 7) L.length hab).2
  refine ⟨W2, c, ⟨f.kl kl, by rw [e, em], fun k hk => ?_⟩, f.A⟩
  have es := (cf_congr (a := W.2.1 6) (b := W.2.1 7) k (fun j hj => hab j (by omega))).1
  rw [(h k hk).1, (h k hk).2, em, es, (hab k hk).1]
  exact ⟨rfl, rfl⟩
theorem kc_run (W : cw) {g : Nat → Option jx_E} (nx s : Nat) {x : Nat} {T : tv} (im : im_sta g x T) (ok : tv_ok T) (w : Int32) : ∃ W2, jx_T 1 0 (jx_ent 1 [.ref 3, .ref x, .int w]) [] (hc W g nx s) none (hc W2 g nx s) ∧ ca_I W2 (tg_L T w T.2.1) (fun k => cs_s T w (tg_L T w T.2.1) k T.2.1) (fun k => cs_l T w (tg_L T w T.2.1) k T.2.1) ∧ ka_f W W2 := by
  have hM := ok.1
  have hl := tg_len ok w T.2.1 (Nat.le_refl _)
  obtain ⟨W1, c1, k1, f1⟩ := kc_gather W nx s im ok w
  obtain ⟨W2, c2, f2, h2⟩ := kc_fill W1 nx s im ok w _ k1 (by omega)
  obtain ⟨W3, c3, i3, f3⟩ := kc_flowI W2 g nx s _ (f2.kl k1) (by omega) _ _ h2
  refine ⟨W3, ?_, i3, (f1.A.tr f2.A).tr f3⟩
  show jx_T 1 0 [.ref 3, .ref x, .int w] [] _ _ _
  refine jx_T.step (pc' := 1) (st' := [_]) rfl rfl ?_
  refine jx_T.step (pc' := 2) (st' := [_, _]) rfl rfl ?_
  refine jx_T.step (pc' := 3) (st' := [_, _, _]) rfl rfl ?_
  refine cl.v2V (hc_fix 3 (by decide) (cw_c3 _)) rfl (by decide) rfl ⟨Nat.le_of_ble_eq_true rfl, rfl⟩ (Nat.le_of_ble_eq_true rfl) (c1) ?_
  refine jx_T.step (pc' := 7) (st' := [_]) rfl rfl ?_
  refine jx_T.step (pc' := 8) (st' := [_, _]) rfl rfl ?_
  refine jx_T.step (pc' := 9) (st' := [_, _, _]) rfl rfl ?_
  refine cl.v2V (hc_fix 3 (by decide) (cw_c3 _)) rfl (by decide) rfl ⟨Nat.le_of_ble_eq_true rfl, rfl⟩ (Nat.le_of_ble_eq_true rfl) (c2) ?_
  refine jx_T.step (pc' := 13) (st' := [_]) rfl rfl ?_
  refine cl.v0V (hc_fix 3 (by decide) (cw_c3 _)) rfl (by decide) rfl ⟨Nat.le_of_ble_eq_true rfl, rfl⟩ (Nat.le_of_ble_eq_true rfl) (c3) ?_
  exact jx_T.ret rfl rfl
theorem kc_runWith (W : cw) {g : Nat → Option jx_E} (nx s : Nat) {x : Nat} {T : tv} (im : im_sta g x T) (ok : tv_ok T) (w v : Int32) : ∃ W2, jx_T 10 0 (jx_ent 10 [.ref 3, .ref x, .int w, .int v]) [] (hc W g nx s) none (hc W2 g nx s) ∧ ca_I W2 (lv_ins v (tg_L T w T.2.1)) (fun k => cs_s T w (lv_ins v (tg_L T w T.2.1)) k T.2.1) (fun k => cs_l T w (lv_ins v (tg_L T w T.2.1)) k T.2.1) ∧ ka_f W W2 := by
  have hM := ok.1
  have hl := tg_len ok w T.2.1 (Nat.le_refl _)
  have hl2 := lv_ins_len v (tg_L T w T.2.1)
  obtain ⟨W1, c1, k1, f1⟩ := kc_gather W nx s im ok w
  obtain ⟨Wa, ca, ka, fa⟩ := kc_ins4 W1 g nx s _ k1 (by omega) v
  obtain ⟨W2, c2, f2, h2⟩ := kc_fill Wa nx s im ok w _ ka (by omega)
  obtain ⟨W3, c3, i3, f3⟩ := kc_flowI W2 g nx s _ (f2.kl ka) (by omega) _ _ h2
  refine ⟨W3, ?_, i3, ((f1.tr fa).A.tr f2.A).tr f3⟩
  show jx_T 10 0 [.ref 3, .ref x, .int w, .int v] [] _ _ _
  refine jx_T.step (pc' := 1) (st' := [_]) rfl rfl ?_
  refine jx_T.step (pc' := 2) (st' := [_, _]) rfl rfl ?_
  refine jx_T.step (pc' := 3) (st' := [_, _, _]) rfl rfl ?_
  refine cl.v2V (hc_fix 3 (by decide) (cw_c3 _)) rfl (by decide) rfl ⟨Nat.le_of_ble_eq_true rfl, rfl⟩ (Nat.le_of_ble_eq_true rfl) (c1) ?_
  refine jx_T.step (pc' := 7) (st' := [_]) rfl rfl ?_
  refine cl.get 3 (by decide) rfl (cw_c3 _) rfl ?_
  refine jx_T.step (pc' := 11) (st' := [_, _]) rfl rfl ?_
  refine cl.v1V (hc_fix 4 (by decide) (cw_c4 _)) rfl (by decide) rfl ⟨Nat.le_of_ble_eq_true rfl, rfl⟩ (Nat.le_of_ble_eq_true rfl) (ca) ?_
  refine jx_T.step (pc' := 15) (st' := [_]) rfl rfl ?_
  refine jx_T.step (pc' := 16) (st' := [_, _]) rfl rfl ?_
  refine jx_T.step (pc' := 17) (st' := [_, _, _]) rfl rfl ?_
  refine cl.v2V (hc_fix 3 (by decide) (cw_c3 _)) rfl (by decide) rfl ⟨Nat.le_of_ble_eq_true rfl, rfl⟩ (Nat.le_of_ble_eq_true rfl) (c2) ?_
  refine jx_T.step (pc' := 21) (st' := [_]) rfl rfl ?_
  refine cl.v0V (hc_fix 3 (by decide) (cw_c3 _)) rfl (by decide) rfl ⟨Nat.le_of_ble_eq_true rfl, rfl⟩ (Nat.le_of_ble_eq_true rfl) (c3) ?_
  exact jx_T.ret rfl rfl
def ca_c (a b : Nat → Int64) (n : Nat) : Int64 := if n = 0 then 0 else cf_su a b (n - 1) + a (n - 1) + -(cf_mn a b n)
section
variable {W : cw} {L : List Int32} {a b : Nat → Int64} (g : Nat → Option jx_E) (nx s : Nat)
theorem kc_leastCold (I : ca_I W L a b) (hL : L.length ≤ 110) : jx_T 6 0 (jx_ent 6 [.ref 3]) [] (hc W g nx s) (some (.long (ca_c a b L.length))) (hc W g nx s) := by
  have en := I.1.1
  show jx_T 6 0 [.ref 3] [] _ _ _
  unfold ca_c
  refine jx_T.step (pc' := 1) (st' := [_]) rfl rfl ?_
  refine cl.get 3 (by decide) rfl (cw_c3 _) rfl ?_
  refine cl.get 4 (by decide) rfl (cw_c4 _) rfl ?_
  rw [en]
  by_cases z : L.length = 0
  · rw [if_pos z]
    refine cl.brn rfl (fun zq => absurd ((nI_z (by omega)).mpr z) zq) (fun _ => ?_)
    refine jx_T.step (pc' := 11) (st' := [_]) rfl rfl ?_
    refine jx_T.step (pc' := 28) (st' := [_]) rfl rfl ?_
    exact jx_T.ret rfl rfl
  · rw [if_neg z]
    refine cl.brn rfl (fun _ => ?_) (fun zq => absurd zq (fun q => z ((nI_z (by omega)).mp q)))
    refine jx_T.step (pc' := 15) (st' := [_]) rfl rfl ?_
    refine cl.get 3 (by decide) rfl (cw_c3 _) rfl ?_
    refine jx_T.step (pc' := 19) (st' := [_, _]) rfl rfl ?_
    refine cl.get 3 (by decide) rfl (cw_c3 _) rfl ?_
    refine cl.get 4 (by decide) rfl (cw_c4 _) rfl ?_
    rw [en]
    refine jx_T.step (pc' := 26) (st' := [_, _, _]) rfl rfl ?_
    refine jx_T.step (pc' := 27) (st' := [_, _]) rfl rfl ?_
    rw [show nI L.length - 1 = nI (L.length - 1) by
      obtain ⟨j, hj⟩ : ∃ j, L.length = j + 1 := ⟨L.length - 1, by omega⟩
      rw [hj, nI_pred]; rfl]
    refine cl.lald 9 (by decide) rfl (cw_c9 _) (rf_ix (by omega) (by decide)) ?_
    rw [nI_clamp (by omega), (I.2.2 _ (by omega)).2]
    exact jx_T.ret rfl rfl
/-- a pinch -/
abbrev ca_p (a b : Nat → Int64) (n k : Nat) : Prop := (cf_su a b k + -(cf_mn a b n) = 0 ∨ cf_su a b k + a k + -(cf_mn a b n) = 0) ∧ ¬ (k = 0 ∧ -(cf_mn a b n) = 0) ∧ ¬ (k = n - 1 ∧ ca_c a b n = 0)
theorem kc_isPinch (I : ca_I W L a b) (hL : L.length ≤ 110) (k : Nat) (hk : k < L.length) : jx_T 8 0 (jx_ent 8 [.ref 3, .int (nI k)]) [] (hc W g nx s) (some (.int (rf_o (ca_p a b L.length k)))) (hc W g nx s) := by
  have en := I.1.1
  have cc := kc_leastCold g nx s I hL
  obtain ⟨e8, e9⟩ := I.2.2 k hk
  have e1 : nI L.length - 1 = nI (L.length - 1) := by
    obtain ⟨j, hj⟩ : ∃ j, L.length = j + 1 := ⟨L.length - 1, by omega⟩
    rw [hj, nI_pred]; rfl
  have t70 : ∀ (x y : Int32), (x = 0 ↔ ¬ (k = 0 ∧ -(cf_mn a b L.length) = 0)) → (y = 0 ↔ ¬ (k = L.length - 1 ∧ ca_c a b L.length = 0)) → (cf_su a b k + -(cf_mn a b L.length) = 0 ∨ cf_su a b k + a k + -(cf_mn a b L.length) = 0) → jx_T 8 70 [.ref 3, .int (nI k), .int x, .retAddr 0] [.int y] (hc W g nx s) (some (.int (rf_o (ca_p a b L.length k)))) (hc W g nx s) := by
    intro x y hx hy h0
    refine jx_T.step (pc' := 71) (ls' := [_, _, _, _]) (st' := []) rfl rfl ?_
    refine jx_T.step (pc' := 72) (st' := [_]) rfl rfl ?_
    by_cases z : x = 0
    · refine cl.brn rfl (fun zq => absurd (z) zq) (fun _ => ?_)
      refine jx_T.step (pc' := 76) (st' := [_]) rfl rfl ?_
      by_cases w : y = 0
      · rw [rf_ot (P := ca_p a b L.length k) ⟨h0, hx.mp z, hy.mp w⟩]
        refine cl.brn rfl (fun zq => absurd (w) zq) (fun _ => ?_)
        refine jx_T.step (pc' := 80) (st' := [_]) rfl rfl ?_
        refine jx_T.step (pc' := 84) (st' := [_]) rfl rfl ?_
        exact jx_T.ret rfl rfl
      · rw [rf_of (P := ca_p a b L.length k) (fun q => w (hy.mpr q.2.2))]
        refine cl.brn rfl (fun _ => ?_) (fun zq => absurd zq (w))
        refine jx_T.step (pc' := 84) (st' := [_]) rfl rfl ?_
        exact jx_T.ret rfl rfl
    · rw [rf_of (P := ca_p a b L.length k) (fun q => z (hx.mpr q.2.1))]
      refine cl.brn rfl (fun _ => ?_) (fun zq => absurd zq (z))
      refine jx_T.step (pc' := 84) (st' := [_]) rfl rfl ?_
      exact jx_T.ret rfl rfl
  have t42 : ∀ (x : Int32), (x = 0 ↔ ¬ (k = 0 ∧ -(cf_mn a b L.length) = 0)) → (cf_su a b k + -(cf_mn a b L.length) = 0 ∨ cf_su a b k + a k + -(cf_mn a b L.length) = 0) → jx_T 8 42 [.ref 3, .int (nI k), .retAddr 0, .retAddr 0] [.int x] (hc W g nx s) (some (.int (rf_o (ca_p a b L.length k)))) (hc W g nx s) := by
    intro x hx h0
    refine jx_T.step (pc' := 43) (ls' := [_, _, _, _]) (st' := []) rfl rfl ?_
    refine jx_T.step (pc' := 44) (st' := [_]) rfl rfl ?_
    refine jx_T.step (pc' := 45) (st' := [_, _]) rfl rfl ?_
    refine cl.get 3 (by decide) rfl (cw_c3 _) rfl ?_
    refine cl.get 4 (by decide) rfl (cw_c4 _) rfl ?_
    rw [en]
    refine jx_T.step (pc' := 52) (st' := [_, _, _]) rfl rfl ?_
    refine jx_T.step (pc' := 53) (st' := [_, _]) rfl rfl ?_
    rw [e1]
    by_cases z : k = L.length - 1
    · refine cl.bcn rfl (fun zq => absurd (congrArg nI z) zq) (fun _ => ?_)
      refine jx_T.step (pc' := 57) (st' := [_]) rfl rfl ?_
      refine cl.v0I (hc_fix 3 (by decide) (cw_c3 _)) rfl (by decide) rfl ⟨Nat.le_of_ble_eq_true rfl, rfl⟩ (Nat.le_of_ble_eq_true rfl) (cc) ?_
      refine jx_T.step (pc' := 61) (st' := [_, _]) rfl rfl ?_
      refine jx_T.step (pc' := 62) (st' := [_]) rfl rfl ?_
      by_cases y : ca_c a b L.length = 0
      · refine cl.brn rfl (fun zq => absurd ((lg_cmp_eq0 _ _).mpr y) zq) (fun _ => ?_)
        refine jx_T.step (pc' := 66) (st' := [_]) rfl rfl ?_
        refine jx_T.step (pc' := 70) (st' := [_]) rfl rfl ?_
        exact t70 x 1 hx ⟨fun q => absurd q (by decide), fun q => absurd ⟨z, y⟩ q⟩ h0
      · refine cl.brn rfl (fun _ => ?_) (fun zq => absurd zq (fun q => y ((lg_cmp_eq0 _ _).mp q)))
        refine jx_T.step (pc' := 70) (st' := [_]) rfl rfl ?_
        exact t70 x 0 hx ⟨fun _ q => y q.2, fun _ => rfl⟩ h0
    · refine cl.bcn rfl (fun _ => ?_) (fun zq => absurd zq (fun q => z ((nI_inj (by omega) (by omega)).mp q)))
      refine jx_T.step (pc' := 70) (st' := [_]) rfl rfl ?_
      exact t70 x 0 hx ⟨fun _ q => z q.1, fun _ => rfl⟩ h0
  have t24 : (cf_su a b k + -(cf_mn a b L.length) = 0 ∨ cf_su a b k + a k + -(cf_mn a b L.length) = 0) → jx_T 8 24 [.ref 3, .int (nI k), .retAddr 0, .retAddr 0] [] (hc W g nx s) (some (.int (rf_o (ca_p a b L.length k)))) (hc W g nx s) := by
    intro h0
    refine jx_T.step (pc' := 25) (st' := [_]) rfl rfl ?_
    by_cases z : k = 0
    · refine cl.brn rfl (fun zq => absurd ((nI_z (by omega)).mpr z) zq) (fun _ => ?_)
      refine jx_T.step (pc' := 29) (st' := [_]) rfl rfl ?_
      refine cl.get 3 (by decide) rfl (cw_c3 _) rfl ?_
      rw [I.2.1]
      refine jx_T.step (pc' := 33) (st' := [_, _]) rfl rfl ?_
      refine jx_T.step (pc' := 34) (st' := [_]) rfl rfl ?_
      by_cases y : -(cf_mn a b L.length) = 0
      · refine cl.brn rfl (fun zq => absurd ((lg_cmp_eq0 _ _).mpr y) zq) (fun _ => ?_)
        refine jx_T.step (pc' := 38) (st' := [_]) rfl rfl ?_
        refine jx_T.step (pc' := 42) (st' := [_]) rfl rfl ?_
        exact t42 1 ⟨fun q => absurd q (by decide), fun q => absurd ⟨z, y⟩ q⟩ h0
      · refine cl.brn rfl (fun _ => ?_) (fun zq => absurd zq (fun q => y ((lg_cmp_eq0 _ _).mp q)))
        refine jx_T.step (pc' := 42) (st' := [_]) rfl rfl ?_
        exact t42 0 ⟨fun _ q => y q.2, fun _ => rfl⟩ h0
    · refine cl.brn rfl (fun _ => ?_) (fun zq => absurd zq (fun q => z ((nI_z (by omega)).mp q)))
      refine jx_T.step (pc' := 42) (st' := [_]) rfl rfl ?_
      exact t42 0 ⟨fun _ q => z q.1, fun _ => rfl⟩ h0
  show jx_T 8 0 [.ref 3, .int (nI k), .retAddr 0, .retAddr 0] [] _ _ _
  refine jx_T.step (pc' := 1) (st' := [_]) rfl rfl ?_
  refine cl.get 3 (by decide) rfl (cw_c3 _) rfl ?_
  refine jx_T.step (pc' := 5) (st' := [_, _]) rfl rfl ?_
  refine cl.lald 8 (by decide) rfl (cw_c8 _) (rf_ix (by omega) (by decide)) ?_
  rw [nI_clamp (by omega), e8]
  refine jx_T.step (pc' := 7) (st' := [_, _]) rfl rfl ?_
  refine jx_T.step (pc' := 8) (st' := [_]) rfl rfl ?_
  by_cases z : cf_su a b k + -(cf_mn a b L.length) = 0
  · refine cl.br rfl (jx_br_eq _ _) (fun _ => ?_) (fun zq => absurd ((lg_cmp_eq0 _ _).mpr z) zq)
    exact t24 (Or.inl z)
  · refine cl.br rfl (jx_br_eq _ _) (fun zq => absurd zq (fun q => z ((lg_cmp_eq0 _ _).mp q))) (fun _ => ?_)
    refine jx_T.step (pc' := 12) (st' := [_]) rfl rfl ?_
    refine cl.get 3 (by decide) rfl (cw_c3 _) rfl ?_
    refine jx_T.step (pc' := 16) (st' := [_, _]) rfl rfl ?_
    refine cl.lald 9 (by decide) rfl (cw_c9 _) (rf_ix (by omega) (by decide)) ?_
    rw [nI_clamp (by omega), e9]
    refine jx_T.step (pc' := 18) (st' := [_, _]) rfl rfl ?_
    refine jx_T.step (pc' := 19) (st' := [_]) rfl rfl ?_
    by_cases y : cf_su a b k + a k + -(cf_mn a b L.length) = 0
    · refine cl.br rfl (jx_br_eq _ _) (fun _ => ?_) (fun zq => absurd ((lg_cmp_eq0 _ _).mpr y) zq)
      exact t24 (Or.inr y)
    · rw [rf_of (P := ca_p a b L.length k) (fun q => q.1.elim z y)]
      refine cl.br rfl (jx_br_eq _ _) (fun zq => absurd zq (fun q => y ((lg_cmp_eq0 _ _).mp q))) (fun _ => ?_)
      refine jx_T.step (pc' := 23) (st' := [_]) rfl rfl ?_
      exact jx_T.ret rfl rfl
def ca_pn (a b : Nat → Int64) (n : Nat) (w : Int32) : Nat → Nat → Int32 → Int32
  | 0, _, _ => -1
  | d + 1, k, t => if ca_p a b n k then (if t = w then nI k else ca_pn a b n w d (k + 1) (t + 1)) else ca_pn a b n w d (k + 1) t
theorem kc_placeOfPinch (I : ca_I W L a b) (hL : L.length ≤ 110) (w : Int32) : jx_T 7 0 (jx_ent 7 [.ref 3, .int w]) [] (hc W g nx s) (some (.int (ca_pn a b L.length w L.length 0 0))) (hc W g nx s) := by
  have en := I.1.1
  have loop : ∀ d k t, k + d = L.length → jx_T 7 4 [.ref 3, .int w, .int t, .int (nI k)] [] (hc W g nx s) (some (.int (ca_pn a b L.length w d k t))) (hc W g nx s) := by
    intro d
    induction d with
    | zero =>
      intro k t hk
      refine jx_T.step (pc' := 5) (st' := [_]) rfl rfl ?_
      refine jx_T.step (pc' := 6) (st' := [_, _]) rfl rfl ?_
      refine cl.get 3 (by decide) rfl (cw_c3 _) rfl ?_
      refine cl.get 4 (by decide) rfl (cw_c4 _) rfl ?_
      rw [en, show k = L.length by omega]
      refine cl.bc rfl (jx_br_ge _ _) (fun _ => ?_) (fun zq => absurd (Int32.le_refl _) zq)
      refine jx_T.step (pc' := 40) (st' := [_]) rfl rfl ?_
      exact jx_T.ret rfl rfl
    | succ d ih =>
      intro k t hk
      have cp := kc_isPinch g nx s I hL k (by omega)
      have nxt := fun t => ih (k + 1) t (by omega)
      rw [← nI_1] at nxt
      unfold ca_pn
      refine jx_T.step (pc' := 5) (st' := [_]) rfl rfl ?_
      refine jx_T.step (pc' := 6) (st' := [_, _]) rfl rfl ?_
      refine cl.get 3 (by decide) rfl (cw_c3 _) rfl ?_
      refine cl.get 4 (by decide) rfl (cw_c4 _) rfl ?_
      rw [en]
      refine cl.bc rfl (jx_br_ge _ _) (fun zq => absurd zq (nI_ge (by omega) (by omega))) (fun _ => ?_)
      refine jx_T.step (pc' := 16) (st' := [_]) rfl rfl ?_
      refine jx_T.step (pc' := 17) (st' := [_, _]) rfl rfl ?_
      refine cl.v1I (hc_fix 3 (by decide) (cw_c3 _)) rfl (by decide) rfl ⟨Nat.le_of_ble_eq_true rfl, rfl⟩ (Nat.le_of_ble_eq_true rfl) (cp) ?_
      by_cases z : ca_p a b L.length k
      · rw [if_pos z]
        refine cl.br rfl (jx_br_eq _ _) (fun zq => absurd zq (fun q => (rf_o_0 _).mp q z)) (fun _ => ?_)
        refine jx_T.step (pc' := 24) (st' := [_]) rfl rfl ?_
        refine jx_T.step (pc' := 25) (st' := [_, _]) rfl rfl ?_
        by_cases y : t = w
        · rw [if_pos y]
          refine cl.bcn rfl (fun zq => absurd (y) zq) (fun _ => ?_)
          refine jx_T.step (pc' := 29) (st' := [_]) rfl rfl ?_
          exact jx_T.ret rfl rfl
        · rw [if_neg y]
          refine cl.bcn rfl (fun _ => ?_) (fun zq => absurd zq (y))
          refine jx_T.step (pc' := 33) (ls' := [_, _, _, _]) (st' := []) rfl rfl ?_
          refine jx_T.step (pc' := 36) (ls' := [_, _, _, _]) (st' := []) rfl rfl ?_
          refine jx_T.step (pc' := 4) (st' := []) rfl rfl ?_
          exact nxt _
      · rw [if_neg z]
        refine cl.br rfl (jx_br_eq _ _) (fun _ => ?_) (fun zq => absurd ((rf_o_0 _).mpr z) zq)
        refine jx_T.step (pc' := 36) (ls' := [_, _, _, _]) (st' := []) rfl rfl ?_
        refine jx_T.step (pc' := 4) (st' := []) rfl rfl ?_
        exact nxt _
  show jx_T 7 0 [.ref 3, .int w, .retAddr 0, .retAddr 0] [] _ _ _
  refine jx_T.step (pc' := 1) (st' := [_]) rfl rfl ?_
  refine jx_T.step (pc' := 2) (ls' := [_, _, _, _]) (st' := []) rfl rfl ?_
  refine jx_T.step (pc' := 3) (st' := [_]) rfl rfl ?_
  refine jx_T.step (pc' := 4) (ls' := [_, _, _, _]) (st' := []) rfl rfl ?_
  exact loop L.length 0 0 (by omega)
end
