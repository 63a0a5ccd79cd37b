/-! the works' engine and carrier -/
theorem rf_pos_congr {f g : Nat → Int32} {v : Int32} : ∀ d k, (∀ j, k ≤ j → j < k + d → f j = g j) → rf_pos f v d k = rf_pos g v d k
  | 0, _, _ => rfl
  | d + 1, k, h => by
    unfold rf_pos
    rw [h k (by omega) (by omega), rf_pos_congr d (k + 1) (fun j h1 h2 => h j (by omega) (by omega))]
def lv_p (L : List Int32) (v : Int32) : Nat := rf_pos (fun k => L.getD k 0) v L.length 0
theorem lv_p_le (L : List Int32) (v : Int32) : lv_p L v ≤ L.length := by
  have := rf_pos_le (fun k => L.getD k 0) v L.length 0
  unfold lv_p
  omega
theorem kl_4.pos {W : cw} {L : List Int32} (h : kl_4 W L) (v : Int32) : rf_pos (W.1 5) v L.length 0 = lv_p L v := rf_pos_congr _ _ (fun j _ hj => h.get j (by omega))
theorem kc_addStill (W : cw) (g : Nat → Option jx_E) (nx s : Nat) (L : List Int32) (kl : kl_4 W L) (hL : L.length ≤ 110) (v h : Int32) : jx_T 9 0 (jx_ent 9 [.ref 3, .int v, .int h]) [] (hc W g nx s) none (hc (if lv_p L v < L.length then cw_B W 6 (vp_updL (W.2.1 6) (lv_p L v) (W.2.1 6 (lv_p L v) + h.toInt64)) else W) g nx s) := by
  have cp := kc_place4 W g nx s L.length hL kl.1 v
  rw [kl.pos] at cp
  have hp := lv_p_le L v
  have ch := kc_has4 W g nx s L.length hL kl.1 (nI (lv_p L v))
  rw [nI_toInt (by omega)] at ch
  show jx_T 9 0 [.ref 3, .int v, .int h, .retAddr 0] [] _ _ _
  refine jx_T.step (pc' := 1) (st' := [_]) rfl rfl ?_
  refine cl.get 3 (by decide) rfl (cw_c3 _) rfl ?_
  refine jx_T.step (pc' := 5) (st' := [_, _]) rfl rfl ?_
  refine cl.v1I (hc_fix 4 (by decide) (cw_c4 _)) rfl (by decide) rfl ⟨Nat.le_of_ble_eq_true rfl, rfl⟩ (Nat.le_of_ble_eq_true rfl) (cp) ?_
  refine jx_T.step (pc' := 9) (ls' := [_, _, _, _]) (st' := []) rfl rfl ?_
  refine jx_T.step (pc' := 10) (st' := [_]) rfl rfl ?_
  refine cl.get 3 (by decide) rfl (cw_c3 _) rfl ?_
  refine jx_T.step (pc' := 14) (st' := [_, _]) rfl rfl ?_
  refine cl.v1I (hc_fix 4 (by decide) (cw_c4 _)) rfl (by decide) rfl ⟨Nat.le_of_ble_eq_true rfl, rfl⟩ (Nat.le_of_ble_eq_true rfl) (ch) ?_
  by_cases z : lv_p L v < L.length
  · rw [if_pos z]
    refine cl.br rfl (jx_br_eq _ _) (fun zq => absurd zq (fun q => (rf_o_0 _).mp q (by omega))) (fun _ => ?_)
    refine jx_T.step (pc' := 21) (st' := [_]) rfl rfl ?_
    refine cl.get 3 (by decide) rfl (cw_c3 _) rfl ?_
    refine jx_T.step (pc' := 25) (st' := [_, _]) rfl rfl ?_
    refine jx_T.step (pc' := 26) (st' := [_, _, _, _]) rfl rfl ?_
    refine cl.lald 6 (by decide) rfl (cw_c6 _) (rf_ix (by omega) (by decide)) ?_
    refine jx_T.step (pc' := 28) (st' := [_, _, _, _]) rfl rfl ?_
    refine jx_T.step (pc' := 29) (st' := [_, _, _, _]) rfl rfl ?_
    refine jx_T.step (pc' := 30) (st' := [_, _, _]) rfl rfl ?_
    rw [nI_clamp (by omega)]
    refine cl.last 6 (by decide) rfl (cw_c6 _) (cw_s6 _) (rf_ix (by omega) (by decide)) ?_
    rw [nI_clamp (by omega)]
    exact jx_T.ret rfl rfl
  · rw [if_neg z]
    refine cl.br rfl (jx_br_eq _ _) (fun _ => ?_) (fun zq => absurd ((rf_o_0 _).mpr (by omega)) zq)
    exact jx_T.ret rfl rfl
section
variable {W : cw} {L : List Int32} {a b : Nat → Int64} (g : Nat → Option jx_E) (nx s : Nat)
def ca_m (a b : Nat → Int64) (n k : Nat) : Int64 := lmin (cf_su a b k + -(cf_mn a b n)) (cf_su a b k + a k + -(cf_mn a b n))
def ca_lp (a b : Nat → Int64) (n : Nat) : Nat → Nat → Int64 → Int64
  | 0, _, m => m
  | d + 1, k, m => ca_lp a b n d (k + 1) (lmin m (ca_m a b n k))
def ca_mg (a b : Nat → Int64) (L : List Int32) (v : Int32) : Int64 := if lv_p L v < L.length then ca_lp a b L.length (L.length - (lv_p L v + 1)) (lv_p L v + 1) (cf_su a b (lv_p L v) + a (lv_p L v) + -(cf_mn a b L.length)) else 0
def ca_mt (a b : Nat → Int64) (L : List Int32) (v : Int32) : Int64 := if lv_p L v < L.length then ca_lp a b L.length (lv_p L v) 0 (cf_su a b (lv_p L v) + -(cf_mn a b L.length)) else 0
theorem kc_mostGiven (I : ca_I W L a b) (hL : L.length ≤ 110) (v : Int32) : jx_T 11 0 (jx_ent 11 [.ref 3, .int v]) [] (hc W g nx s) (some (.long (ca_mg a b L v))) (hc W g nx s) := by
  have en := I.1.1
  have cp := kc_place4 W g nx s L.length hL en v
  rw [I.1.pos] at cp
  have hp := lv_p_le L v
  have ch := kc_has4 W g nx s L.length hL en (nI (lv_p L v))
  rw [nI_toInt (by omega)] at ch
  have loop : ∀ d k m, k + d = L.length → jx_T 11 34 [.ref 3, .int v, .int (nI (lv_p L v)), .long m, .retAddr 0, .int (nI k)] [] (hc W g nx s) (some (.long (ca_lp a b L.length d k m))) (hc W g nx s) := by
    intro d
    induction d with
    | zero =>
      intro k m hk
      refine jx_T.step (pc' := 36) (st' := [_]) rfl rfl ?_
      refine jx_T.step (pc' := 37) (st' := [_, _]) rfl rfl ?_
      refine cl.get 3 (by decide) rfl (cw_c3 _) rfl ?_
      refine cl.get 4 (by decide) rfl (cw_c4 _) rfl ?_
      rw [en, show k = L.length by omega]
      refine cl.bc rfl (jx_br_ge _ _) (fun _ => ?_) (fun zq => absurd (Int32.le_refl _) zq)
      refine jx_T.step (pc' := 75) (st' := [_]) rfl rfl ?_
      exact jx_T.ret rfl rfl
    | succ d ih =>
      intro k m hk
      obtain ⟨e8, e9⟩ := I.2.2 k (by omega)
      refine jx_T.step (pc' := 36) (st' := [_]) rfl rfl ?_
      refine jx_T.step (pc' := 37) (st' := [_, _]) rfl rfl ?_
      refine cl.get 3 (by decide) rfl (cw_c3 _) rfl ?_
      refine cl.get 4 (by decide) rfl (cw_c4 _) rfl ?_
      rw [en]
      refine cl.bc rfl (jx_br_ge _ _) (fun zq => absurd zq (nI_ge (by omega) (by omega))) (fun _ => ?_)
      refine jx_T.step (pc' := 47) (st' := [_]) rfl rfl ?_
      refine jx_T.step (pc' := 48) (st' := [_, _]) rfl rfl ?_
      refine cl.get 3 (by decide) rfl (cw_c3 _) rfl ?_
      refine jx_T.step (pc' := 53) (st' := [_, _, _]) rfl rfl ?_
      refine cl.lald 8 (by decide) rfl (cw_c8 _) (rf_ix (by omega) (by decide)) ?_
      refine jx_T.step (pc' := 55) (st' := [_, _, _]) rfl rfl ?_
      refine cl.get 3 (by decide) rfl (cw_c3 _) rfl ?_
      refine jx_T.step (pc' := 60) (st' := [_, _, _, _]) rfl rfl ?_
      refine cl.lald 9 (by decide) rfl (cw_c9 _) (rf_ix (by omega) (by decide)) ?_
      rw [nI_clamp (by omega), e8, e9]
      refine cl.s2I rfl (by decide) rfl (Nat.le_of_ble_eq_true rfl) (Nat.le_of_ble_eq_true rfl) (kc_minL _ _ _) ?_
      refine cl.s2I rfl (by decide) rfl (Nat.le_of_ble_eq_true rfl) (Nat.le_of_ble_eq_true rfl) (kc_minL _ _ _) ?_
      refine jx_T.step (pc' := 68) (ls' := [_, _, _, _, _, _]) (st' := []) rfl rfl ?_
      refine jx_T.step (pc' := 71) (ls' := [_, _, _, _, _, _]) (st' := []) rfl rfl ?_
      refine jx_T.step (pc' := 34) (st' := []) rfl rfl ?_
      rw [nI_1]
      exact ih (k + 1) _ (by omega)
  show jx_T 11 0 [.ref 3, .int v, .retAddr 0, .retAddr 0, .retAddr 0, .retAddr 0] [] _ _ _
  unfold ca_mg
  refine jx_T.step (pc' := 1) (st' := [_]) rfl rfl ?_
  refine cl.get 3 (by decide) rfl (cw_c3 _) rfl ?_
  refine jx_T.step (pc' := 5) (st' := [_, _]) rfl rfl ?_
  refine cl.v1I (hc_fix 4 (by decide) (cw_c4 _)) rfl (by decide) rfl ⟨Nat.le_of_ble_eq_true rfl, rfl⟩ (Nat.le_of_ble_eq_true rfl) (cp) ?_
  refine jx_T.step (pc' := 9) (ls' := [_, _, _, _, _, _]) (st' := []) rfl rfl ?_
  refine jx_T.step (pc' := 10) (st' := [_]) rfl rfl ?_
  refine cl.get 3 (by decide) rfl (cw_c3 _) rfl ?_
  refine jx_T.step (pc' := 14) (st' := [_, _]) rfl rfl ?_
  refine cl.v1I (hc_fix 4 (by decide) (cw_c4 _)) rfl (by decide) rfl ⟨Nat.le_of_ble_eq_true rfl, rfl⟩ (Nat.le_of_ble_eq_true rfl) (ch) ?_
  by_cases z : lv_p L v < L.length
  · rw [if_pos z]
    refine cl.brn rfl (fun _ => ?_) (fun zq => absurd zq (fun q => (rf_o_0 _).mp q (by omega)))
    refine jx_T.step (pc' := 23) (st' := [_]) rfl rfl ?_
    refine cl.get 3 (by decide) rfl (cw_c3 _) rfl ?_
    refine jx_T.step (pc' := 27) (st' := [_, _]) rfl rfl ?_
    refine cl.lald 9 (by decide) rfl (cw_c9 _) (rf_ix (by omega) (by decide)) ?_
    rw [nI_clamp (by omega), (I.2.2 _ z).2]
    refine jx_T.step (pc' := 29) (ls' := [_, _, _, _, _, _]) (st' := []) rfl rfl ?_
    refine jx_T.step (pc' := 30) (st' := [_]) rfl rfl ?_
    refine jx_T.step (pc' := 31) (st' := [_, _]) rfl rfl ?_
    refine jx_T.step (pc' := 32) (st' := [_]) rfl rfl ?_
    refine jx_T.step (pc' := 34) (ls' := [_, _, _, _, _, _]) (st' := []) rfl rfl ?_
    rw [nI_1]
    exact loop _ _ _ (by omega)
  · rw [if_neg z]
    refine cl.brn rfl (fun zq => absurd ((rf_o_0 _).mpr (by omega)) zq) (fun _ => ?_)
    refine jx_T.step (pc' := 21) (st' := [_]) rfl rfl ?_
    exact jx_T.ret rfl rfl
theorem kc_mostTaken (I : ca_I W L a b) (hL : L.length ≤ 110) (v : Int32) : jx_T 12 0 (jx_ent 12 [.ref 3, .int v]) [] (hc W g nx s) (some (.long (ca_mt a b L v))) (hc W g nx s) := by
  have en := I.1.1
  have cp := kc_place4 W g nx s L.length hL en v
  rw [I.1.pos] at cp
  have hp := lv_p_le L v
  have ch := kc_has4 W g nx s L.length hL en (nI (lv_p L v))
  rw [nI_toInt (by omega)] at ch
  have loop : ∀ d k m, k + d = lv_p L v → jx_T 12 32 [.ref 3, .int v, .int (nI (lv_p L v)), .long m, .retAddr 0, .int (nI k)] [] (hc W g nx s) (some (.long (ca_lp a b L.length d k m))) (hc W g nx s) := by
    intro d
    induction d with
    | zero =>
      intro k m hk
      refine jx_T.step (pc' := 34) (st' := [_]) rfl rfl ?_
      refine jx_T.step (pc' := 35) (st' := [_, _]) rfl rfl ?_
      rw [show k = lv_p L v by omega]
      refine cl.bc rfl (jx_br_ge _ _) (fun _ => ?_) (fun zq => absurd (Int32.le_refl _) zq)
      refine jx_T.step (pc' := 67) (st' := [_]) rfl rfl ?_
      exact jx_T.ret rfl rfl
    | succ d ih =>
      intro k m hk
      obtain ⟨e8, e9⟩ := I.2.2 k (by omega)
      refine jx_T.step (pc' := 34) (st' := [_]) rfl rfl ?_
      refine jx_T.step (pc' := 35) (st' := [_, _]) rfl rfl ?_
      refine cl.bc rfl (jx_br_ge _ _) (fun zq => absurd zq (nI_ge (by omega) (by omega))) (fun _ => ?_)
      refine jx_T.step (pc' := 39) (st' := [_]) rfl rfl ?_
      refine jx_T.step (pc' := 40) (st' := [_, _]) rfl rfl ?_
      refine cl.get 3 (by decide) rfl (cw_c3 _) rfl ?_
      refine jx_T.step (pc' := 45) (st' := [_, _, _]) rfl rfl ?_
      refine cl.lald 8 (by decide) rfl (cw_c8 _) (rf_ix (by omega) (by decide)) ?_
      refine jx_T.step (pc' := 47) (st' := [_, _, _]) rfl rfl ?_
      refine cl.get 3 (by decide) rfl (cw_c3 _) rfl ?_
      refine jx_T.step (pc' := 52) (st' := [_, _, _, _]) rfl rfl ?_
      refine cl.lald 9 (by decide) rfl (cw_c9 _) (rf_ix (by omega) (by decide)) ?_
      rw [nI_clamp (by omega), e8, e9]
      refine cl.s2I rfl (by decide) rfl (Nat.le_of_ble_eq_true rfl) (Nat.le_of_ble_eq_true rfl) (kc_minL _ _ _) ?_
      refine cl.s2I rfl (by decide) rfl (Nat.le_of_ble_eq_true rfl) (Nat.le_of_ble_eq_true rfl) (kc_minL _ _ _) ?_
      refine jx_T.step (pc' := 60) (ls' := [_, _, _, _, _, _]) (st' := []) rfl rfl ?_
      refine jx_T.step (pc' := 63) (ls' := [_, _, _, _, _, _]) (st' := []) rfl rfl ?_
      refine jx_T.step (pc' := 32) (st' := []) rfl rfl ?_
      rw [nI_1]
      exact ih (k + 1) _ (by omega)
  show jx_T 12 0 [.ref 3, .int v, .retAddr 0, .retAddr 0, .retAddr 0, .retAddr 0] [] _ _ _
  unfold ca_mt
  refine jx_T.step (pc' := 1) (st' := [_]) rfl rfl ?_
  refine cl.get 3 (by decide) rfl (cw_c3 _) rfl ?_
  refine jx_T.step (pc' := 5) (st' := [_, _]) rfl rfl ?_
  refine cl.v1I (hc_fix 4 (by decide) (cw_c4 _)) rfl (by decide) rfl ⟨Nat.le_of_ble_eq_true rfl, rfl⟩ (Nat.le_of_ble_eq_true rfl) (cp) ?_
  refine jx_T.step (pc' := 9) (ls' := [_, _, _, _, _, _]) (st' := []) rfl rfl ?_
  refine jx_T.step (pc' := 10) (st' := [_]) rfl rfl ?_
  refine cl.get 3 (by decide) rfl (cw_c3 _) rfl ?_
  refine jx_T.step (pc' := 14) (st' := [_, _]) rfl rfl ?_
  refine cl.v1I (hc_fix 4 (by decide) (cw_c4 _)) rfl (by decide) rfl ⟨Nat.le_of_ble_eq_true rfl, rfl⟩ (Nat.le_of_ble_eq_true rfl) (ch) ?_
  by_cases z : lv_p L v < L.length
  · rw [if_pos z]
    refine cl.brn rfl (fun _ => ?_) (fun zq => absurd zq (fun q => (rf_o_0 _).mp q (by omega)))
    refine jx_T.step (pc' := 23) (st' := [_]) rfl rfl ?_
    refine cl.get 3 (by decide) rfl (cw_c3 _) rfl ?_
    refine jx_T.step (pc' := 27) (st' := [_, _]) rfl rfl ?_
    refine cl.lald 8 (by decide) rfl (cw_c8 _) (rf_ix (by omega) (by decide)) ?_
    rw [nI_clamp (by omega), (I.2.2 _ z).1]
    refine jx_T.step (pc' := 29) (ls' := [_, _, _, _, _, _]) (st' := []) rfl rfl ?_
    refine jx_T.step (pc' := 30) (st' := [_]) rfl rfl ?_
    refine jx_T.step (pc' := 32) (ls' := [_, _, _, _, _, _]) (st' := []) rfl rfl ?_
    exact loop (lv_p L v) 0 _ (by omega)
  · rw [if_neg z]
    refine cl.brn rfl (fun zq => absurd ((rf_o_0 _).mpr (by omega)) zq) (fun _ => ?_)
    refine jx_T.step (pc' := 21) (st' := [_]) rfl rfl ?_
    exact jx_T.ret rfl rfl
end
section
variable {W : cw} {g : Nat → Option jx_E} {x : Nat} {T : tv} (nx s : Nat)
def tw_M (T : tv) (w v : Int32) : List Int32 := lv_ins v (tw_L T w)
def tw_ca (T : tv) (a b v : Int32) : Int64 := lmin (ca_mg (tw_a T a (tw_M T a v)) (tw_b T a (tw_M T a v)) (tw_M T a v) v) (ca_mt (tw_a T b (tw_M T b v)) (tw_b T b (tw_M T b v)) (tw_M T b v) v)
theorem kc_carrier (n : cl_now W g x T) (a b v : Int32) : ∃ W2, jx_T 128 0 (jx_ent 128 [.ref 1, .int a, .int b, .int v]) [] (hc W g nx s) (some (.long (if rf_cok a b v then tw_ca T a b v else -1))) (hc W2 g nx s) ∧ ka_f W W2 := by
  by_cases ok : rf_cok a b v
  · rw [if_pos ok]
    obtain ⟨o1, o2, o3, o4⟩ := ok
    have hl1 := tw_len n.2.2 a
    have hl2 := tw_len n.2.2 b
    have hi1 : (tw_M T a v).length ≤ _ := lv_ins_len v (tw_L T a)
    have hi2 : (tw_M T b v).length ≤ _ := lv_ins_len v (tw_L T b)
    obtain ⟨W1, c1, i1, f1⟩ := kc_runWith W nx s n.2.1 n.2.2 a v
    have i1 : ca_I W1 (tw_M T a v) (tw_a T a (tw_M T a v)) (tw_b T a (tw_M T a v)) := i1
    have n1 := n.A f1
    obtain ⟨W2, c2, i2, f2⟩ := kc_runWith W1 nx s n.2.1 n.2.2 b v
    have i2 : ca_I W2 (tw_M T b v) (tw_a T b (tw_M T b v)) (tw_b T b (tw_M T b v)) := i2
    refine ⟨W2, ?_, f1.tr f2⟩
    show jx_T 128 0 [.ref 1, .int a, .int b, .int v, .retAddr 0, .retAddr 0] [] _ _ _
    refine jx_T.step (pc' := 1) (st' := [_]) rfl rfl ?_
    refine jx_T.step (pc' := 2) (st' := [_, _]) rfl rfl ?_
    refine jx_T.step (pc' := 3) (st' := [_, _, _]) rfl rfl ?_
    refine cl.s3I rfl (by decide) rfl (Nat.le_of_ble_eq_true rfl) (Nat.le_of_ble_eq_true rfl) (kc_within _ _ _ _) ?_
    refine cl.br rfl (jx_br_eq _ _) (fun zq => absurd zq (fun q => (rf_o_0 _).mp q o1)) (fun _ => ?_)
    refine jx_T.step (pc' := 10) (st' := [_]) rfl rfl ?_
    refine jx_T.step (pc' := 11) (st' := [_, _]) rfl rfl ?_
    refine jx_T.step (pc' := 12) (st' := [_, _, _]) rfl rfl ?_
    refine cl.s3I rfl (by decide) rfl (Nat.le_of_ble_eq_true rfl) (Nat.le_of_ble_eq_true rfl) (kc_within _ _ _ _) ?_
    refine cl.br rfl (jx_br_eq _ _) (fun zq => absurd zq (fun q => (rf_o_0 _).mp q o2)) (fun _ => ?_)
    refine jx_T.step (pc' := 19) (st' := [_]) rfl rfl ?_
    refine jx_T.step (pc' := 20) (st' := [_, _]) rfl rfl ?_
    refine cl.bc rfl (jx_br_eq _ _) (fun zq => absurd zq (o3)) (fun _ => ?_)
    refine jx_T.step (pc' := 24) (st' := [_]) rfl rfl ?_
    refine cl.s1I rfl (by decide) rfl (Nat.le_of_ble_eq_true rfl) (Nat.le_of_ble_eq_true rfl) (kc_isLevel _ _) ?_
    refine cl.brn rfl (fun _ => ?_) (fun zq => absurd zq (fun q => (rf_o_0 _).mp q o4))
    refine jx_T.step (pc' := 35) (st' := [_]) rfl rfl ?_
    refine cl.get 1 (by decide) rfl (cw_c1 _) rfl ?_
    refine jx_T.step (pc' := 39) (st' := [_, _]) rfl rfl ?_
    refine cl.v0I (hc_fix 1 (by decide) (cw_c1 _)) rfl (by decide) rfl ⟨Nat.le_of_ble_eq_true rfl, rfl⟩ (Nat.le_of_ble_eq_true rfl) (kc_now nx s n) ?_
    refine jx_T.step (pc' := 43) (st' := [_, _, _]) rfl rfl ?_
    refine jx_T.step (pc' := 44) (st' := [_, _, _, _]) rfl rfl ?_
    refine cl.v3V (hc_fix 3 (by decide) (cw_c3 _)) rfl (by decide) rfl ⟨Nat.le_of_ble_eq_true rfl, rfl⟩ (Nat.le_of_ble_eq_true rfl) (c1) ?_
    refine jx_T.step (pc' := 48) (st' := [_]) rfl rfl ?_
    refine cl.get 1 (by decide) rfl (cw_c1 _) rfl ?_
    refine jx_T.step (pc' := 52) (st' := [_, _]) rfl rfl ?_
    refine cl.v1I (hc_fix 3 (by decide) (cw_c3 _)) rfl (by decide) rfl ⟨Nat.le_of_ble_eq_true rfl, rfl⟩ (Nat.le_of_ble_eq_true rfl) (kc_mostGiven g nx s i1 (by omega) v) ?_
    refine jx_T.step (pc' := 57) (ls' := [_, _, _, _, _, _]) (st' := []) rfl rfl ?_
    refine jx_T.step (pc' := 58) (st' := [_]) rfl rfl ?_
    refine cl.get 1 (by decide) rfl (cw_c1 _) rfl ?_
    refine jx_T.step (pc' := 62) (st' := [_, _]) rfl rfl ?_
    refine cl.v0I (hc_fix 1 (by decide) (cw_c1 _)) rfl (by decide) rfl ⟨Nat.le_of_ble_eq_true rfl, rfl⟩ (Nat.le_of_ble_eq_true rfl) (kc_now nx s n1) ?_
    refine jx_T.step (pc' := 66) (st' := [_, _, _]) rfl rfl ?_
    refine jx_T.step (pc' := 67) (st' := [_, _, _, _]) rfl rfl ?_
    refine cl.v3V (hc_fix 3 (by decide) (cw_c3 _)) rfl (by decide) rfl ⟨Nat.le_of_ble_eq_true rfl, rfl⟩ (Nat.le_of_ble_eq_true rfl) (c2) ?_
    refine jx_T.step (pc' := 72) (st' := [_]) rfl rfl ?_
    refine jx_T.step (pc' := 73) (st' := [_, _]) rfl rfl ?_
    refine cl.get 1 (by decide) rfl (cw_c1 _) rfl ?_
    refine jx_T.step (pc' := 77) (st' := [_, _, _]) rfl rfl ?_
    refine cl.v1I (hc_fix 3 (by decide) (cw_c3 _)) rfl (by decide) rfl ⟨Nat.le_of_ble_eq_true rfl, rfl⟩ (Nat.le_of_ble_eq_true rfl) (kc_mostTaken g nx s i2 (by omega) v) ?_
    refine cl.s2I rfl (by decide) rfl (Nat.le_of_ble_eq_true rfl) (Nat.le_of_ble_eq_true rfl) (kc_minL _ _ _) ?_
    exact jx_T.ret rfl rfl
  · rw [if_neg ok]
    refine ⟨W, ?_, ka_f.rf⟩
    have t30 : jx_T 128 30 [.ref 1, .int a, .int b, .int v, .retAddr 0, .retAddr 0] [] (hc W g nx s) (some (.long (-1))) (hc W g nx s) := by
      refine jx_T.step (pc' := 33) (st' := [_]) rfl rfl ?_
      exact jx_T.ret rfl rfl
    show jx_T 128 0 [.ref 1, .int a, .int b, .int v, .retAddr 0, .retAddr 0] [] _ _ _
    refine jx_T.step (pc' := 1) (st' := [_]) rfl rfl ?_
    refine jx_T.step (pc' := 2) (st' := [_, _]) rfl rfl ?_
    refine jx_T.step (pc' := 3) (st' := [_, _, _]) rfl rfl ?_
    refine cl.s3I rfl (by decide) rfl (Nat.le_of_ble_eq_true rfl) (Nat.le_of_ble_eq_true rfl) (kc_within _ _ _ _) ?_
    refine cl.br rfl (jx_br_eq _ _) (fun z1 => ?_) (fun z1 => ?_)
    · exact t30
    have o1 := Decidable.not_not.mp (fun y => z1 ((rf_o_0 _).mpr y))
    refine jx_T.step (pc' := 10) (st' := [_]) rfl rfl ?_
    refine jx_T.step (pc' := 11) (st' := [_, _]) rfl rfl ?_
    refine jx_T.step (pc' := 12) (st' := [_, _, _]) rfl rfl ?_
    refine cl.s3I rfl (by decide) rfl (Nat.le_of_ble_eq_true rfl) (Nat.le_of_ble_eq_true rfl) (kc_within _ _ _ _) ?_
    refine cl.br rfl (jx_br_eq _ _) (fun z2 => ?_) (fun z2 => ?_)
    · exact t30
    have o2 := Decidable.not_not.mp (fun y => z2 ((rf_o_0 _).mpr y))
    refine jx_T.step (pc' := 19) (st' := [_]) rfl rfl ?_
    refine jx_T.step (pc' := 20) (st' := [_, _]) rfl rfl ?_
    refine cl.bc rfl (jx_br_eq _ _) (fun o3 => ?_) (fun o3 => ?_)
    · exact t30
    refine jx_T.step (pc' := 24) (st' := [_]) rfl rfl ?_
    refine cl.s1I rfl (by decide) rfl (Nat.le_of_ble_eq_true rfl) (Nat.le_of_ble_eq_true rfl) (kc_isLevel _ _) ?_
    refine cl.brn rfl (fun z4 => ?_) (fun z4 => ?_)
    · have o4 := Decidable.not_not.mp (fun y => z4 ((rf_o_0 _).mpr y))
      exact absurd ⟨o1, o2, o3, o4⟩ ok
    · exact t30
def lv_at2 (a : Nat → Int64) (n p : Nat) (x : Int64) : Nat → Int64 := if p < n then vp_updL a p (a p + x) else a
def tw_E (T : tv) (v u : Int32) : List Int32 := lv_ins u (lv_ins v (tw_L T 3))
def tw_ea (T : tv) (h v w u : Int32) : Nat → Int64 := lv_at2 (lv_at2 (tw_a T 3 (tw_E T v u)) (tw_E T v u).length (lv_p (tw_E T v u) v) (-h).toInt64) (tw_E T v u).length (lv_p (tw_E T v u) u) (h - w).toInt64
def tw_en (T : tv) (h v w u : Int32) : Int64 := -(cf_mn (tw_a T 3 (tw_L T 3)) (tw_b T 3 (tw_L T 3)) (tw_L T 3).length) + h.toInt64 - -(cf_mn (tw_ea T h v w u) (tw_b T 3 (tw_E T v u)) (tw_E T v u).length)
theorem kc_engine (n : cl_now W g x T) (h v w u : Int32) : ∃ W2, jx_T 126 0 (jx_ent 126 [.ref 1, .int h, .int v, .int w, .int u]) [] (hc W g nx s) (some (.long (if rf_eok h v w u then tw_en T h v w u else 0))) (hc W2 g nx s) ∧ ka_f W W2 := by
  by_cases ok : rf_eok h v w u
  · rw [if_pos ok]
    obtain ⟨o1, o2, o3, o4, o5⟩ := ok
    have hl := tw_len n.2.2 3
    have hi1 := lv_ins_len v (tw_L T 3)
    have hi2 : (tw_E T v u).length ≤ _ := lv_ins_len u (lv_ins v (tw_L T 3))
    obtain ⟨W1, c1, i1, f1⟩ := kc_runT nx s n 3
    have n1 := n.A f1
    obtain ⟨W2, c2, k2, f2⟩ := kc_gather W1 nx s n.2.1 n.2.2 3
    have k2 : kl_4 W2 (tw_L T 3) := k2
    obtain ⟨W3, c3, k3, f3⟩ := kc_ins4 W2 g nx s _ k2 (by omega) v
    obtain ⟨W4, c4, k4, f4⟩ := kc_ins4 W3 g nx s _ k3 (by omega) u
    have k4 : kl_4 W4 (tw_E T v u) := k4
    have n4 := ((n1.A f2.A).A f3.A).A f4.A
    obtain ⟨W5, c5, f5, h5⟩ := kc_fill W4 nx s n.2.1 n.2.2 3 _ k4 (by omega)
    have k5 := f5.kl k4
    have c6 := kc_addStill W5 g nx s _ k5 (by omega) v (-h)
    have fB : ∀ (V : cw) (p : Nat) (q : Int64), kb_f V (if p < (tw_E T v u).length then cw_B V 6 (vp_updL (V.2.1 6) p (V.2.1 6 p + q)) else V) := fun V p q => by
      split
      · exact kb_f.B (Or.inl rfl)
      · exact kb_f.rf
    have vB : ∀ (V : cw) (p : Nat) (q : Int64) (a0 b0 : Nat → Int64), (∀ k, k < (tw_E T v u).length → V.2.1 6 k = a0 k ∧ V.2.1 7 k = b0 k) → ∀ k, k < (tw_E T v u).length → (if p < (tw_E T v u).length then cw_B V 6 (vp_updL (V.2.1 6) p (V.2.1 6 p + q)) else V).2.1 6 k = lv_at2 a0 (tw_E T v u).length p q k ∧ (if p < (tw_E T v u).length then cw_B V 6 (vp_updL (V.2.1 6) p (V.2.1 6 p + q)) else V).2.1 7 k = b0 k := by
      intro V p q a0 b0 hh k hk
      unfold lv_at2
      by_cases z : p < (tw_E T v u).length
      · rw [if_pos z, if_pos z]
        refine ⟨?_, (hh k hk).2⟩
        show vp_updL (V.2.1 6) p (V.2.1 6 p + q) k = _
        unfold vp_updL
        by_cases e : k = p
        · rw [if_pos e, if_pos e, (hh p z).1]
        · rw [if_neg e, if_neg e, (hh k hk).1]
      · rw [if_neg z, if_neg z]
        exact hh k hk
    have f6 := fB W5 (lv_p (tw_E T v u) v) (-h).toInt64
    have h6 := vB W5 (lv_p (tw_E T v u) v) (-h).toInt64 _ _ h5
    generalize (if lv_p (tw_E T v u) v < (tw_E T v u).length then cw_B W5 6 (vp_updL (W5.2.1 6) (lv_p (tw_E T v u) v) (W5.2.1 6 (lv_p (tw_E T v u) v) + (-h).toInt64)) else W5) = W6 at c6 f6 h6
    have c7 := kc_addStill W6 g nx s _ (f6.kl k5) (by omega) u (h - w)
    have f7 := fB W6 (lv_p (tw_E T v u) u) (h - w).toInt64
    have h7 := vB W6 (lv_p (tw_E T v u) u) (h - w).toInt64 _ _ h6
    generalize (if lv_p (tw_E T v u) u < (tw_E T v u).length then cw_B W6 6 (vp_updL (W6.2.1 6) (lv_p (tw_E T v u) u) (W6.2.1 6 (lv_p (tw_E T v u) u) + (h - w).toInt64)) else W6) = W7 at c7 f7 h7
    obtain ⟨W8, c8, i8, f8⟩ := kc_flowI W7 g nx s _ (f7.kl (f6.kl k5)) (by omega) _ _ h7
    refine ⟨W8, ?_, (((f1.tr ((f2.tr f3).tr f4).A).tr f5.A).tr (f6.A.tr f7.A)).tr f8⟩
    have e8 : W8.2.2.2.1 3 5 = -(cf_mn (tw_ea T h v w u) (tw_b T 3 (tw_E T v u)) (tw_E T v u).length) := i8.2.1
    show jx_T 126 0 [.ref 1, .int h, .int v, .int w, .int u, .retAddr 0, .retAddr 0] [] _ _ _
    refine jx_T.step (pc' := 1) (st' := [_]) rfl rfl ?_
    refine jx_T.step (pc' := 2) (st' := [_, _]) rfl rfl ?_
    refine jx_T.step (pc' := 4) (st' := [_, _, _]) rfl rfl ?_
    refine cl.s3I rfl (by decide) rfl (Nat.le_of_ble_eq_true rfl) (Nat.le_of_ble_eq_true rfl) (kc_within _ _ _ _) ?_
    refine cl.br rfl (jx_br_eq _ _) (fun zq => absurd zq (fun q => (rf_o_0 _).mp q o1)) (fun _ => ?_)
    refine jx_T.step (pc' := 11) (st' := [_]) rfl rfl ?_
    refine jx_T.step (pc' := 12) (st' := [_, _]) rfl rfl ?_
    refine jx_T.step (pc' := 13) (st' := [_, _, _]) rfl rfl ?_
    refine cl.s3I rfl (by decide) rfl (Nat.le_of_ble_eq_true rfl) (Nat.le_of_ble_eq_true rfl) (kc_within _ _ _ _) ?_
    refine cl.br rfl (jx_br_eq _ _) (fun zq => absurd zq (fun q => (rf_o_0 _).mp q o2)) (fun _ => ?_)
    refine jx_T.step (pc' := 20) (st' := [_]) rfl rfl ?_
    refine cl.s1I rfl (by decide) rfl (Nat.le_of_ble_eq_true rfl) (Nat.le_of_ble_eq_true rfl) (kc_isLevel _ _) ?_
    refine cl.br rfl (jx_br_eq _ _) (fun zq => absurd zq (fun q => (rf_o_0 _).mp q o4)) (fun _ => ?_)
    refine jx_T.step (pc' := 28) (st' := [_]) rfl rfl ?_
    refine cl.s1I rfl (by decide) rfl (Nat.le_of_ble_eq_true rfl) (Nat.le_of_ble_eq_true rfl) (kc_isLevel _ _) ?_
    refine cl.br rfl (jx_br_eq _ _) (fun zq => absurd zq (fun q => (rf_o_0 _).mp q o5)) (fun _ => ?_)
    refine jx_T.step (pc' := 36) (st' := [_]) rfl rfl ?_
    refine jx_T.step (pc' := 37) (st' := [_, _]) rfl rfl ?_
    refine cl.bc rfl (jx_br_lt _ _) (fun _ => ?_) (fun zq => absurd (Int32.not_le.mp o3) zq)
    refine jx_T.step (pc' := 43) (st' := [_]) rfl rfl ?_
    refine cl.get 1 (by decide) rfl (cw_c1 _) rfl ?_
    refine jx_T.step (pc' := 47) (st' := [_, _]) rfl rfl ?_
    refine cl.v0I (hc_fix 1 (by decide) (cw_c1 _)) rfl (by decide) rfl ⟨Nat.le_of_ble_eq_true rfl, rfl⟩ (Nat.le_of_ble_eq_true rfl) (kc_now nx s n) ?_
    refine jx_T.step (pc' := 51) (st' := [_, _, _]) rfl rfl ?_
    refine cl.v2V (hc_fix 3 (by decide) (cw_c3 _)) rfl (by decide) rfl ⟨Nat.le_of_ble_eq_true rfl, rfl⟩ (Nat.le_of_ble_eq_true rfl) (c1) ?_
    refine jx_T.step (pc' := 55) (st' := [_]) rfl rfl ?_
    refine cl.get 1 (by decide) rfl (cw_c1 _) rfl ?_
    refine cl.get 3 (by decide) rfl (cw_c3 _) rfl ?_
    rw [i1.2.1]
    refine jx_T.step (pc' := 63) (ls' := [_, _, _, _, _, _, _]) (st' := []) rfl rfl ?_
    refine jx_T.step (pc' := 64) (st' := [_]) rfl rfl ?_
    refine cl.get 1 (by decide) rfl (cw_c1 _) rfl ?_
    refine jx_T.step (pc' := 68) (st' := [_, _]) rfl rfl ?_
    refine cl.v0I (hc_fix 1 (by decide) (cw_c1 _)) rfl (by decide) rfl ⟨Nat.le_of_ble_eq_true rfl, rfl⟩ (Nat.le_of_ble_eq_true rfl) (kc_now nx s n1) ?_
    refine jx_T.step (pc' := 72) (st' := [_, _, _]) rfl rfl ?_
    refine cl.v2V (hc_fix 3 (by decide) (cw_c3 _)) rfl (by decide) rfl ⟨Nat.le_of_ble_eq_true rfl, rfl⟩ (Nat.le_of_ble_eq_true rfl) (c2) ?_
    refine jx_T.step (pc' := 76) (st' := [_]) rfl rfl ?_
    refine cl.get 1 (by decide) rfl (cw_c1 _) rfl ?_
    refine cl.get 3 (by decide) rfl (cw_c3 _) rfl ?_
    refine jx_T.step (pc' := 83) (st' := [_, _]) rfl rfl ?_
    refine cl.v1V (hc_fix 4 (by decide) (cw_c4 _)) rfl (by decide) rfl ⟨Nat.le_of_ble_eq_true rfl, rfl⟩ (Nat.le_of_ble_eq_true rfl) (c3) ?_
    refine jx_T.step (pc' := 87) (st' := [_]) rfl rfl ?_
    refine cl.get 1 (by decide) rfl (cw_c1 _) rfl ?_
    refine cl.get 3 (by decide) rfl (cw_c3 _) rfl ?_
    refine jx_T.step (pc' := 95) (st' := [_, _]) rfl rfl ?_
    refine cl.v1V (hc_fix 4 (by decide) (cw_c4 _)) rfl (by decide) rfl ⟨Nat.le_of_ble_eq_true rfl, rfl⟩ (Nat.le_of_ble_eq_true rfl) (c4) ?_
    refine jx_T.step (pc' := 99) (st' := [_]) rfl rfl ?_
    refine cl.get 1 (by decide) rfl (cw_c1 _) rfl ?_
    refine jx_T.step (pc' := 103) (st' := [_, _]) rfl rfl ?_
    refine cl.v0I (hc_fix 1 (by decide) (cw_c1 _)) rfl (by decide) rfl ⟨Nat.le_of_ble_eq_true rfl, rfl⟩ (Nat.le_of_ble_eq_true rfl) (kc_now nx s n4) ?_
    refine jx_T.step (pc' := 107) (st' := [_, _, _]) rfl rfl ?_
    refine cl.v2V (hc_fix 3 (by decide) (cw_c3 _)) rfl (by decide) rfl ⟨Nat.le_of_ble_eq_true rfl, rfl⟩ (Nat.le_of_ble_eq_true rfl) (c5) ?_
    refine jx_T.step (pc' := 111) (st' := [_]) rfl rfl ?_
    refine cl.get 1 (by decide) rfl (cw_c1 _) rfl ?_
    refine jx_T.step (pc' := 115) (st' := [_, _]) rfl rfl ?_
    refine jx_T.step (pc' := 116) (st' := [_, _, _]) rfl rfl ?_
    refine jx_T.step (pc' := 117) (st' := [_, _, _]) rfl rfl ?_
    refine cl.v2V (hc_fix 3 (by decide) (cw_c3 _)) rfl (by decide) rfl ⟨Nat.le_of_ble_eq_true rfl, rfl⟩ (Nat.le_of_ble_eq_true rfl) (c6) ?_
    refine jx_T.step (pc' := 121) (st' := [_]) rfl rfl ?_
    refine cl.get 1 (by decide) rfl (cw_c1 _) rfl ?_
    refine jx_T.step (pc' := 126) (st' := [_, _]) rfl rfl ?_
    refine jx_T.step (pc' := 127) (st' := [_, _, _]) rfl rfl ?_
    refine jx_T.step (pc' := 128) (st' := [_, _, _, _]) rfl rfl ?_
    refine jx_T.step (pc' := 129) (st' := [_, _, _]) rfl rfl ?_
    refine cl.v2V (hc_fix 3 (by decide) (cw_c3 _)) rfl (by decide) rfl ⟨Nat.le_of_ble_eq_true rfl, rfl⟩ (Nat.le_of_ble_eq_true rfl) (c7) ?_
    refine jx_T.step (pc' := 133) (st' := [_]) rfl rfl ?_
    refine cl.get 1 (by decide) rfl (cw_c1 _) rfl ?_
    refine cl.v0V (hc_fix 3 (by decide) (cw_c3 _)) rfl (by decide) rfl ⟨Nat.le_of_ble_eq_true rfl, rfl⟩ (Nat.le_of_ble_eq_true rfl) (c8) ?_
    refine jx_T.step (pc' := 141) (st' := [_]) rfl rfl ?_
    refine jx_T.step (pc' := 142) (st' := [_, _]) rfl rfl ?_
    refine jx_T.step (pc' := 143) (st' := [_, _]) rfl rfl ?_
    refine jx_T.step (pc' := 144) (st' := [_]) rfl rfl ?_
    refine jx_T.step (pc' := 145) (st' := [_, _]) rfl rfl ?_
    refine cl.get 1 (by decide) rfl (cw_c1 _) rfl ?_
    refine cl.get 3 (by decide) rfl (cw_c3 _) rfl ?_
    rw [e8]
    refine jx_T.step (pc' := 152) (st' := [_]) rfl rfl ?_
    exact jx_T.ret rfl rfl
  · rw [if_neg ok]
    refine ⟨W, ?_, ka_f.rf⟩
    have t40 : jx_T 126 40 [.ref 1, .int h, .int v, .int w, .int u, .retAddr 0, .retAddr 0] [] (hc W g nx s) (some (.long 0)) (hc W g nx s) := by
      refine jx_T.step (pc' := 41) (st' := [_]) rfl rfl ?_
      exact jx_T.ret rfl rfl
    show jx_T 126 0 [.ref 1, .int h, .int v, .int w, .int u, .retAddr 0, .retAddr 0] [] _ _ _
    refine jx_T.step (pc' := 1) (st' := [_]) rfl rfl ?_
    refine jx_T.step (pc' := 2) (st' := [_, _]) rfl rfl ?_
    refine jx_T.step (pc' := 4) (st' := [_, _, _]) rfl rfl ?_
    refine cl.s3I rfl (by decide) rfl (Nat.le_of_ble_eq_true rfl) (Nat.le_of_ble_eq_true rfl) (kc_within _ _ _ _) ?_
    refine cl.br rfl (jx_br_eq _ _) (fun z1 => ?_) (fun z1 => ?_)
    · exact t40
    have o1 := Decidable.not_not.mp (fun y => z1 ((rf_o_0 _).mpr y))
    refine jx_T.step (pc' := 11) (st' := [_]) rfl rfl ?_
    refine jx_T.step (pc' := 12) (st' := [_, _]) rfl rfl ?_
    refine jx_T.step (pc' := 13) (st' := [_, _, _]) rfl rfl ?_
    refine cl.s3I rfl (by decide) rfl (Nat.le_of_ble_eq_true rfl) (Nat.le_of_ble_eq_true rfl) (kc_within _ _ _ _) ?_
    refine cl.br rfl (jx_br_eq _ _) (fun z2 => ?_) (fun z2 => ?_)
    · exact t40
    have o2 := Decidable.not_not.mp (fun y => z2 ((rf_o_0 _).mpr y))
    refine jx_T.step (pc' := 20) (st' := [_]) rfl rfl ?_
    refine cl.s1I rfl (by decide) rfl (Nat.le_of_ble_eq_true rfl) (Nat.le_of_ble_eq_true rfl) (kc_isLevel _ _) ?_
    refine cl.br rfl (jx_br_eq _ _) (fun z4 => ?_) (fun z4 => ?_)
    · exact t40
    have o4 := Decidable.not_not.mp (fun y => z4 ((rf_o_0 _).mpr y))
    refine jx_T.step (pc' := 28) (st' := [_]) rfl rfl ?_
    refine cl.s1I rfl (by decide) rfl (Nat.le_of_ble_eq_true rfl) (Nat.le_of_ble_eq_true rfl) (kc_isLevel _ _) ?_
    refine cl.br rfl (jx_br_eq _ _) (fun z5 => ?_) (fun z5 => ?_)
    · exact t40
    have o5 := Decidable.not_not.mp (fun y => z5 ((rf_o_0 _).mpr y))
    refine jx_T.step (pc' := 36) (st' := [_]) rfl rfl ?_
    refine jx_T.step (pc' := 37) (st' := [_, _]) rfl rfl ?_
    refine cl.bc rfl (jx_br_lt _ _) (fun o3 => ?_) (fun o3 => ?_)
    · exact absurd ⟨o1, o2, Int32.not_le.mpr o3, o4, o5⟩ ok
    · exact t40
end
