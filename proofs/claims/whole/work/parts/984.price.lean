/-! Pricing: the network that it builds -/
abbrev pz : Type := Nat × List gA × (Nat → Option Nat)
def pz_n (o : Option Nat) : Int32 := match o with | none => -1 | some x => nI x
def pz_o (o : Option Nat) (b : Nat) (w : Int32) : List gA := match o with | none => [] | some x => [(x, b, w.toInt64, 0)]
def pz_ok (Z : pz) : Prop := 4 ≤ Z.1 ∧ (∀ a ∈ Z.2.1, a.1 < Z.1 ∧ a.2.1 < Z.1) ∧ ∀ i x, Z.2.2 i = some x → x < Z.1
def pz_W (M : Nat) (W : cw) (Z : pz) : Prop := nt_H W (hv Z.2.1) Z.1 ∧ nt_R W (2 * Z.2.1.length) (pr (hv_r Z.2.1)) ∧ ∀ i, i < M → W.1 33 i = pz_n (Z.2.2 i)
/-- all but network and latest stays -/
def kz_f (W W2 : cw) : Prop := (∀ k, (k < 23 ∨ 33 < k) → W2.1 k = W.1 k) ∧ W2.2.1 = W.2.1 ∧ (∀ k y, k ≠ 22 → W2.2.2.1 k y = W.2.2.1 k y) ∧ W2.2.2.2 = W.2.2.2
theorem kz_f.rf {W : cw} : kz_f W W := ⟨fun _ _ => rfl, rfl, fun _ _ _ => rfl, rfl⟩
theorem kz_f.tr {W W2 W3 : cw} (a : kz_f W W2) (b : kz_f W2 W3) : kz_f W W3 := ⟨fun k h => (b.1 k h).trans (a.1 k h), b.2.1.trans a.2.1, fun k y h => (b.2.2.1 k y h).trans (a.2.2.1 k y h), b.2.2.2.trans a.2.2.2⟩
theorem kn_f.Z {W W2 : cw} (a : kn_f W W2) : kz_f W W2 := ⟨fun k h => a.1 k (by omega), a.2.1, a.2.2.1, a.2.2.2⟩
theorem kz_f.A {W : cw} {f : Nat → Int32} : kz_f W (cw_A W 33 f) := ⟨fun j hj => cw_An _ _ _ (by omega), rfl, fun _ _ _ => rfl, rfl⟩
theorem kz_f.Q {W W2 : cw} (a : kz_f W W2) : kq_f W W2 := ⟨fun y => a.2.2.1 1 y (by decide), by rw [a.2.1], by rw [a.2.2.2]⟩
theorem kz_f.kl {W W2 : cw} {L : List Int32} (a : kz_f W W2) (h : kl_20 W L) : kl_20 W2 L := by
  unfold kl_20
  rw [a.1 21 (by decide), a.2.2.1 20 1 (by decide)]
  exact h
theorem pz_far {A : List gA} {N : Nat} (h : ∀ a ∈ A, a.1 < N ∧ a.2.1 < N) : ∀ i, i < (hv A).length → ((hv A).getD i hd).1 < N := by
  intro i hi
  rw [hv_len] at hi
  obtain ⟨e, he, q⟩ := pr_half hi
  have hm : A.getD e gd ∈ A := by
    rw [List.getD_eq_getElem?_getD, List.getElem?_eq_getElem he]
    exact List.getElem_mem he
  have := h _ hm
  rcases q with rfl | rfl
  · rw [(hv_get A e he).1]
    exact this.1
  · rw [(hv_get A e he).2]
    exact this.2
section
variable {g : Nat → Option jx_E} {nx s M : Nat} {W : cw} {Z : pz}
theorem kc_lk (K : pz_W M W Z) (ok : pz_ok Z) (hN : Z.1 ≤ 1324) (hn : Z.2.1.length < 5943) (a b : Nat) (ha : a < Z.1) (hb : b < Z.1) (most each : Int32) : ∃ W2, jx_T 36 0 (jx_ent 36 [.ref 22, .int (nI a), .int (nI b), .int most, .int each]) [] (hc W g nx s) none (hc W2 g nx s) ∧ pz_W M W2 (Z.1, Z.2.1 ++ [(a, b, most.toInt64, each)], Z.2.2) ∧ pz_ok (Z.1, Z.2.1 ++ [(a, b, most.toInt64, each)], Z.2.2) ∧ kn_f W W2 := by
  obtain ⟨W2, c, k1, k2, f⟩ := kc_link (g := g) (nx := nx) (s := s) Z.2.1 K.1 K.2.1 hN hn a b ha hb most each
  refine ⟨W2, c, ⟨k1, ?_, fun i hi => ?_⟩, ⟨ok.1, fun x hx => ?_, ok.2.2⟩, f⟩
  · show nt_R W2 (2 * (Z.2.1 ++ [(a, b, most.toInt64, each)]).length) _
    rw [List.length_append]
    exact k2
  · rw [f.1 33 (by decide)]
    exact K.2.2 i hi
  · rcases List.mem_append.mp hx with q | q
    · exact ok.2.1 x q
    · rw [List.mem_singleton.mp q]
      exact ⟨ha, hb⟩
theorem kc_lko (K : pz_W M W Z) (ok : pz_ok Z) (hN : Z.1 ≤ 1324) (hn : Z.2.1.length < 5943) (o : Option Nat) (b : Nat) (ho : ∀ x, o = some x → x < Z.1) (hb : b < Z.1) (w : Int32) : ∃ W2, jx_T 36 0 (jx_ent 36 [.ref 22, .int (pz_n o), .int (nI b), .int w, .int 0]) [] (hc W g nx s) none (hc W2 g nx s) ∧ pz_W M W2 (Z.1, Z.2.1 ++ pz_o o b w, Z.2.2) ∧ pz_ok (Z.1, Z.2.1 ++ pz_o o b w, Z.2.2) ∧ kn_f W W2 := by
  cases o with
  | none =>
    refine ⟨W, kc_link_no K.1 hN _ _ _, ?_, ?_, kn_f.rf⟩
    · show pz_W M W (Z.1, Z.2.1 ++ [], Z.2.2)
      rw [List.append_nil]
      exact K
    · show pz_ok (Z.1, Z.2.1 ++ [], Z.2.2)
      rw [List.append_nil]
      exact ok
  | some a => exact kc_lk K ok hN hn a b (ho a rfl) hb w 0
theorem kc_nn (K : pz_W M W Z) (ok : pz_ok Z) (hN : Z.1 < 1324) : ∃ W2, jx_T 35 0 (jx_ent 35 [.ref 22]) [] (hc W g nx s) (some (.int (nI Z.1))) (hc W2 g nx s) ∧ pz_W M W2 (Z.1 + 1, Z.2.1, Z.2.2) ∧ pz_ok (Z.1 + 1, Z.2.1, Z.2.2) ∧ kn_f W W2 := by
  obtain ⟨W2, c, k1, f, e⟩ := kc_newNode (g := g) (nx := nx) (s := s) K.1 hN (pz_far ok.2.1)
  refine ⟨W2, c, ⟨k1, fun i hi => ?_, fun i hi => ?_⟩, ⟨Nat.le_succ_of_le ok.1, fun x hx => ?_, fun i x hx => Nat.lt_succ_of_lt (ok.2.2 i x hx)⟩, f⟩
  · rw [e]
    exact K.2.1 i hi
  · rw [f.1 33 (by decide)]
    exact K.2.2 i hi
  · exact ⟨Nat.lt_succ_of_lt (ok.2.1 x hx).1, Nat.lt_succ_of_lt (ok.2.1 x hx).2⟩
end
abbrev sv_bt (S : sv) : Prop := S.1 = 3 ∨ S.1 = 4
/-- what heat a stream has at a place -/
def pz_h (T : tv) (L : List Int32) (w : Int32) (i k l : Nat) : Int32 := if l = 1 then sv_fb (T.2.2.1 i) T.1 (L.getD k 0) * lv_dp L k else if sv_sd (T.2.2.1 i) T.1 (L.getD k 0) then (if sv_bt (T.2.2.1 i) then w else sv_am (T.2.2.1 i)) else 0
/-- what building reads -/
def pz_e (W : cw) (L : List Int32) (w : Int32) : Prop := kl_20 W L ∧ L.length ≤ 110 ∧ W.2.2.1 19 3 + W.2.2.1 19 4 = w
theorem pz_e.k {W W2 : cw} {L : List Int32} {w : Int32} (e : pz_e W L w) (f : kz_f W W2) : pz_e W2 L w := ⟨f.kl e.1, e.2.1, by rw [f.2.2.1 19 3 (by decide), f.2.2.1 19 4 (by decide)]; exact e.2.2⟩
section
variable {g : Nat → Option jx_E} {nx s x M : Nat} {T : tv} {W : cw} {L : List Int32} {w : Int32} {Z : pz}
theorem kc_heatAt (im : im_sta g x T) (ok : tv_ok T) (e : pz_e W L w) (i k l : Nat) (hi : i < T.2.1) (hk : k < L.length) (hl : l = 0 ∨ l = 1) : jx_T 60 0 (jx_ent 60 [.ref 19, .ref x, .int (nI i), .int (nI k), .int (nI l)]) [] (hc W g nx s) (some (.int (pz_h T L w i k l))) (hc W g nx s) := by
  obtain ⟨s1, s2, s3, s4, f1, f2, f3, h1, h2, h3, -⟩ := im
  have hM := ok.1
  have hL := e.2.1
  obtain ⟨b, e1, imb⟩ := h3 i hi
  have hn := ok.2 i hi
  have cb := kc_isBought W nx s imb
  have cs := kc_standsAt W nx s imb hn T.1 (L.getD k 0)
  have cf := kc_flowBelow W nx s imb hn T.1 (L.getD k 0)
  have cd := kc_depth20 W g nx s L.length e.2.1 e.1.1 k (by omega)
  have ed : (if k + 1 < L.length then W.1 21 k - W.1 21 (k + 1) else 0) = lv_dp L k := by
    unfold lv_dp
    by_cases z : k + 1 < L.length
    · rw [if_pos z, if_pos z, e.1.get k hk, e.1.get (k + 1) z]
    · rw [if_neg z, if_neg z]
  rw [ed] at cd
  have er := e.1.get k hk
  obtain ⟨ad, af, q1, q2, q3⟩ := imb
  show jx_T 60 0 [.ref 19, .ref x, .int (nI i), .int (nI k), .int (nI l), .retAddr 0, .retAddr 0] [] _ _ _
  refine jx_T.step (pc' := 1) (st' := [_]) rfl rfl ?_
  refine cl.geti (h1).1 (h1).2 rfl rfl ?_
  refine jx_T.step (pc' := 5) (st' := [_, _]) rfl rfl ?_
  refine cl.aaldi (h2).1 (h2).2 rfl (by decide) (rf_ix (by omega) (by decide)) ?_
  rw [nI_clamp (by omega), e1]
  refine jx_T.step (pc' := 8) (ls' := [_, _, _, _, _, _, _]) (st' := []) rfl rfl ?_
  refine jx_T.step (pc' := 9) (st' := [_]) rfl rfl ?_
  refine cl.get 19 (by decide) rfl (cw_c19 _) rfl ?_
  refine cl.get 20 (by decide) rfl (cw_c20 _) rfl ?_
  refine jx_T.step (pc' := 16) (st' := [_, _]) rfl rfl ?_
  refine cl.iald 21 (by decide) rfl (cw_c21 _) (rf_ix (by omega) (by decide)) ?_
  rw [nI_clamp (by omega), er]
  unfold pz_h
  rcases hl with rfl | rfl
  · rw [if_neg (by decide)]
    refine jx_T.step (pc' := 19) (ls' := [_, _, _, _, _, _, _]) (st' := []) rfl rfl ?_
    refine jx_T.step (pc' := 21) (st' := [_]) rfl rfl ?_
    refine cl.br rfl (jx_br_eq _ _) (fun _ => ?_) (fun zq => absurd (rfl) zq)
    refine jx_T.step (pc' := 47) (st' := [_]) rfl rfl ?_
    refine jx_T.step (pc' := 48) (st' := [_, _]) rfl rfl ?_
    refine cl.geti (h1).1 (h1).2 rfl rfl ?_
    refine jx_T.step (pc' := 53) (st' := [_, _, _]) rfl rfl ?_
    refine cl.v2I (hc_imm (q1).1 (q1).2) rfl (by decide) rfl ⟨Nat.le_of_ble_eq_true rfl, rfl⟩ (Nat.le_of_ble_eq_true rfl) (cs) ?_
    by_cases z : sv_sd (T.2.2.1 i) T.1 (L.getD k 0)
    · rw [if_pos z]
      refine cl.brn rfl (fun _ => ?_) (fun q => absurd z ((rf_o_0 _).mp q))
      refine jx_T.step (pc' := 63) (st' := [_]) rfl rfl ?_
      refine cl.v0I (hc_imm (q1).1 (q1).2) rfl (by decide) rfl ⟨Nat.le_of_ble_eq_true rfl, rfl⟩ (Nat.le_of_ble_eq_true rfl) (cb) ?_
      by_cases y : sv_bt (T.2.2.1 i)
      · rw [if_pos y]
        refine cl.br rfl (jx_br_eq _ _) (fun zq => absurd zq (fun q => (rf_o_0 _).mp q y)) (fun _ => ?_)
        refine jx_T.step (pc' := 70) (st' := [_]) rfl rfl ?_
        refine cl.get 19 (by decide) rfl (cw_c19 _) rfl ?_
        refine jx_T.step (pc' := 74) (st' := [_, _]) rfl rfl ?_
        refine cl.get 19 (by decide) rfl (cw_c19 _) rfl ?_
        refine jx_T.step (pc' := 78) (st' := [_]) rfl rfl ?_
        rw [e.2.2]
        refine jx_T.step (pc' := 86) (st' := [_]) rfl rfl ?_
        exact jx_T.ret rfl rfl
      · rw [if_neg y]
        refine cl.br rfl (jx_br_eq _ _) (fun _ => ?_) (fun zq => absurd ((rf_o_0 _).mpr y) zq)
        refine jx_T.step (pc' := 83) (st' := [_]) rfl rfl ?_
        refine cl.geti (q1).1 (q1).2 rfl rfl ?_
        exact jx_T.ret rfl rfl
    · rw [if_neg z]
      refine cl.brn rfl (fun q => absurd ((rf_o_0 _).mpr z) q) (fun _ => ?_)
      refine jx_T.step (pc' := 60) (st' := [_]) rfl rfl ?_
      exact jx_T.ret rfl rfl
  · rw [if_pos rfl]
    refine jx_T.step (pc' := 19) (ls' := [_, _, _, _, _, _, _]) (st' := []) rfl rfl ?_
    refine jx_T.step (pc' := 21) (st' := [_]) rfl rfl ?_
    refine cl.br rfl (jx_br_eq _ _) (fun zq => absurd zq (by decide)) (fun _ => ?_)
    refine jx_T.step (pc' := 26) (st' := [_]) rfl rfl ?_
    refine jx_T.step (pc' := 27) (st' := [_, _]) rfl rfl ?_
    refine cl.geti (h1).1 (h1).2 rfl rfl ?_
    refine jx_T.step (pc' := 32) (st' := [_, _, _]) rfl rfl ?_
    refine cl.v2I (hc_imm (q1).1 (q1).2) rfl (by decide) rfl ⟨Nat.le_of_ble_eq_true rfl, rfl⟩ (Nat.le_of_ble_eq_true rfl) (cf) ?_
    refine jx_T.step (pc' := 36) (st' := [_, _]) rfl rfl ?_
    refine cl.get 19 (by decide) rfl (cw_c19 _) rfl ?_
    refine jx_T.step (pc' := 40) (st' := [_, _, _]) rfl rfl ?_
    refine cl.v1I (hc_fix 20 (by decide) (cw_c20 _)) rfl (by decide) rfl ⟨Nat.le_of_ble_eq_true rfl, rfl⟩ (Nat.le_of_ble_eq_true rfl) (cd) ?_
    refine jx_T.step (pc' := 44) (st' := [_]) rfl rfl ?_
    exact jx_T.ret rfl rfl
def pz_gv (T : tv) (w : Int32) (i : Nat) (h : Int32) (Z : pz) : pz := if h = 0 then Z else (Z.1 + 1, Z.2.1 ++ [(if sv_bt (T.2.2.1 i) then 2 else 0, Z.1, h.toInt64, if sv_bt (T.2.2.1 i) then sv_am (T.2.2.1 i) else 0)] ++ pz_o (Z.2.2 i) Z.1 w, fun j => if j = i then some Z.1 else Z.2.2 j)
theorem kc_addGiver {i : Nat} {S : sv} {b : Nat} (hS : T.2.2.1 i = S) (im : im_str g b S) (e : pz_e W L w) (K : pz_W M W Z) (ok : pz_ok Z) (h : Int32) (hN : h = 0 ∨ (Z.1 < 1324 ∧ Z.2.1.length + 2 ≤ 5943)) (hi : i < M) (hM : M ≤ 12) : ∃ W2, jx_T 61 0 (jx_ent 61 [.ref 19, .ref b, .int (nI i), .int h]) [] (hc W g nx s) none (hc W2 g nx s) ∧ pz_W M W2 (pz_gv T w i h Z) ∧ pz_ok (pz_gv T w i h Z) ∧ kz_f W W2 := by
  have cb := fun W => kc_isBought W nx s im
  obtain ⟨ad, af, q1, q2, q3⟩ := im
  unfold pz_gv
  rw [hS]
  by_cases z : h = 0
  · rw [if_pos z]
    refine ⟨W, ?_, K, ok, kz_f.rf⟩
    show jx_T 61 0 [.ref 19, .ref b, .int (nI i), .int h, .retAddr 0] [] _ _ _
    refine jx_T.step (pc' := 1) (st' := [_]) rfl rfl ?_
    refine cl.brn rfl (fun q => absurd z q) (fun _ => ?_)
    exact jx_T.ret rfl rfl
  · rw [if_neg z]
    have hN := hN.resolve_left z
    obtain ⟨W1, c1, K1, ok1, f1⟩ := kc_nn (g := g) (nx := nx) (s := s) K ok hN.1
    have hz4 := ok.1
    have key : ∀ (a : Nat) (am : Int32) (p : Nat), a < 4 → ∃ W2, jx_T 36 0 (jx_ent 36 [.ref 22, .int (nI a), .int (nI Z.1), .int h, .int am]) [] (hc W1 g nx s) none (hc W2 g nx s) ∧ (pz_W M W2 (Z.1 + 1, Z.2.1 ++ [(a, Z.1, h.toInt64, am)], Z.2.2) ∧ pz_ok (Z.1 + 1, Z.2.1 ++ [(a, Z.1, h.toInt64, am)], Z.2.2) ∧ kn_f W1 W2) ∧ ∃ W3, jx_T 61 51 [.ref 19, .ref b, .int (nI i), .int h, .int (nI Z.1)] [] (hc W2 g nx s) none (hc W3 g nx s) ∧ pz_W M W3 (Z.1 + 1, Z.2.1 ++ [(a, Z.1, h.toInt64, am)] ++ pz_o (Z.2.2 i) Z.1 w, fun j => if j = i then some Z.1 else Z.2.2 j) ∧ pz_ok (Z.1 + 1, Z.2.1 ++ [(a, Z.1, h.toInt64, am)] ++ pz_o (Z.2.2 i) Z.1 w, fun j => if j = i then some Z.1 else Z.2.2 j) ∧ kz_f W W3 := by
      intro a am _ ha
      obtain ⟨W2, c2, K2, ok2, f2⟩ := kc_lk (g := g) (nx := nx) (s := s) K1 ok1 (by show Z.1 + 1 ≤ 1324; omega) (by show Z.2.1.length < 5943; omega) a Z.1 (by show a < Z.1 + 1; omega) (by show Z.1 < Z.1 + 1; omega) h am
      refine ⟨W2, c2, ⟨K2, ok2, f2⟩, ?_⟩
      have len2 : (Z.2.1 ++ [(a, Z.1, h.toInt64, am)]).length = Z.2.1.length + 1 := by rw [List.length_append]; rfl
      obtain ⟨W3, c3, K3, ok3, f3⟩ := kc_lko (g := g) (nx := nx) (s := s) K2 ok2 (by show Z.1 + 1 ≤ 1324; omega) (by show (Z.2.1 ++ [(a, Z.1, h.toInt64, am)]).length < 5943; omega) (Z.2.2 i) Z.1 (fun x hx => Nat.lt_succ_of_lt (ok.2.2 i x hx)) (by show Z.1 < Z.1 + 1; omega) w
      have kz := (f1.Z.tr f2.Z).tr f3.Z
      have e2 := e.k (f1.Z.tr f2.Z)
      have el := K2.2.2 i hi
      refine ⟨cw_A W3 33 (upd (W3.1 33) i (nI Z.1)), ?_, ⟨?_, ?_, ?_⟩, ⟨ok3.1, ok3.2.1, ?_⟩, kz.tr kz_f.A⟩
      · refine jx_T.step (pc' := 52) (st' := [_]) rfl rfl ?_
        refine cl.get 19 (by decide) rfl (cw_c19 _) rfl ?_
        refine jx_T.step (pc' := 56) (st' := [_, _]) rfl rfl ?_
        refine cl.get 19 (by decide) rfl (cw_c19 _) rfl ?_
        refine jx_T.step (pc' := 60) (st' := [_, _, _]) rfl rfl ?_
        refine cl.iald 33 (by decide) rfl (cw_c33 _) (rf_ix (by omega) (by decide)) ?_
        rw [nI_clamp (by omega), el]
        refine jx_T.step (pc' := 63) (st' := [_, _, _]) rfl rfl ?_
        refine jx_T.step (pc' := 64) (st' := [_, _, _, _]) rfl rfl ?_
        refine cl.get 19 (by decide) rfl (cw_c19 _) rfl ?_
        refine jx_T.step (pc' := 68) (st' := [_, _, _, _, _]) rfl rfl ?_
        refine cl.get 19 (by decide) rfl (cw_c19 _) rfl ?_
        refine jx_T.step (pc' := 72) (st' := [_, _, _, _]) rfl rfl ?_
        rw [e2.2.2]
        refine jx_T.step (pc' := 73) (st' := [_, _, _, _, _]) rfl rfl ?_
        refine cl.v4V (hc_fix 22 (by decide) (cw_c22 _)) rfl (by decide) rfl ⟨Nat.le_of_ble_eq_true rfl, rfl⟩ (Nat.le_of_ble_eq_true rfl) (c3) ?_
        refine jx_T.step (pc' := 77) (st' := [_]) rfl rfl ?_
        refine cl.get 19 (by decide) rfl (cw_c19 _) rfl ?_
        refine jx_T.step (pc' := 81) (st' := [_, _]) rfl rfl ?_
        refine jx_T.step (pc' := 83) (st' := [_, _, _]) rfl rfl ?_
        refine cl.iast 33 (by decide) rfl (cw_c33 _) (cw_s33 _) (rf_ix (by omega) (by decide)) ?_
        rw [nI_clamp (by omega)]
        exact jx_T.ret rfl rfl
      · exact K3.1
      · exact K3.2.1
      · intro j hj
        rw [cw_Ae]
        unfold upd
        by_cases y : j = i
        · rw [if_pos y]
          show _ = pz_n (if j = i then some Z.1 else Z.2.2 j)
          rw [if_pos y]
          rfl
        · rw [if_neg y]
          show _ = pz_n (if j = i then some Z.1 else Z.2.2 j)
          rw [if_neg y]
          exact K3.2.2 j hj
      · intro j y hy
        have hy : (if j = i then some Z.1 else Z.2.2 j) = some y := hy
        show y < Z.1 + 1
        by_cases t : j = i
        · rw [if_pos t] at hy
          obtain rfl := Option.some.inj hy
          omega
        · rw [if_neg t] at hy
          have := ok.2.2 j y hy
          omega
    by_cases y : sv_bt S
    · rw [if_pos y, if_pos y]
      obtain ⟨W2, c2, -, W3, t3, r3⟩ := key 2 (sv_am S) 0 (by decide)
      refine ⟨W3, ?_, r3⟩
      show jx_T 61 0 [.ref 19, .ref b, .int (nI i), .int h, .retAddr 0] [] _ _ _
      refine jx_T.step (pc' := 1) (st' := [_]) rfl rfl ?_
      refine cl.brn rfl (fun _ => ?_) (fun q => absurd q z)
      refine jx_T.step (pc' := 6) (st' := [_]) rfl rfl ?_
      refine cl.get 19 (by decide) rfl (cw_c19 _) rfl ?_
      refine cl.v0I (hc_fix 22 (by decide) (cw_c22 _)) rfl (by decide) rfl ⟨Nat.le_of_ble_eq_true rfl, rfl⟩ (Nat.le_of_ble_eq_true rfl) (c1) ?_
      refine jx_T.step (pc' := 14) (ls' := [_, _, _, _, _]) (st' := []) rfl rfl ?_
      refine jx_T.step (pc' := 15) (st' := [_]) rfl rfl ?_
      refine cl.v0I (hc_imm (q1).1 (q1).2) rfl (by decide) rfl ⟨Nat.le_of_ble_eq_true rfl, rfl⟩ (Nat.le_of_ble_eq_true rfl) (cb W1) ?_
      refine cl.br rfl (jx_br_eq _ _) (fun zq => absurd zq (fun q => (rf_o_0 _).mp q y)) (fun _ => ?_)
      refine jx_T.step (pc' := 22) (st' := [_]) rfl rfl ?_
      refine cl.get 19 (by decide) rfl (cw_c19 _) rfl ?_
      refine jx_T.step (pc' := 26) (st' := [_, _]) rfl rfl ?_
      refine jx_T.step (pc' := 28) (st' := [_, _, _]) rfl rfl ?_
      refine jx_T.step (pc' := 29) (st' := [_, _, _, _]) rfl rfl ?_
      refine jx_T.step (pc' := 30) (st' := [_, _, _, _, _]) rfl rfl ?_
      refine cl.geti (q1).1 (q1).2 rfl rfl ?_
      refine cl.v4V (hc_fix 22 (by decide) (cw_c22 _)) rfl (by decide) rfl ⟨Nat.le_of_ble_eq_true rfl, rfl⟩ (Nat.le_of_ble_eq_true rfl) (c2) ?_
      refine jx_T.step (pc' := 51) (st' := []) rfl rfl ?_
      exact t3
    · rw [if_neg y, if_neg y]
      obtain ⟨W2, c2, -, W3, t3, r3⟩ := key 0 0 0 (by decide)
      refine ⟨W3, ?_, r3⟩
      show jx_T 61 0 [.ref 19, .ref b, .int (nI i), .int h, .retAddr 0] [] _ _ _
      refine jx_T.step (pc' := 1) (st' := [_]) rfl rfl ?_
      refine cl.brn rfl (fun _ => ?_) (fun q => absurd q z)
      refine jx_T.step (pc' := 6) (st' := [_]) rfl rfl ?_
      refine cl.get 19 (by decide) rfl (cw_c19 _) rfl ?_
      refine cl.v0I (hc_fix 22 (by decide) (cw_c22 _)) rfl (by decide) rfl ⟨Nat.le_of_ble_eq_true rfl, rfl⟩ (Nat.le_of_ble_eq_true rfl) (c1) ?_
      refine jx_T.step (pc' := 14) (ls' := [_, _, _, _, _]) (st' := []) rfl rfl ?_
      refine jx_T.step (pc' := 15) (st' := [_]) rfl rfl ?_
      refine cl.v0I (hc_imm (q1).1 (q1).2) rfl (by decide) rfl ⟨Nat.le_of_ble_eq_true rfl, rfl⟩ (Nat.le_of_ble_eq_true rfl) (cb W1) ?_
      refine cl.br rfl (jx_br_eq _ _) (fun _ => ?_) (fun zq => absurd ((rf_o_0 _).mpr y) zq)
      refine jx_T.step (pc' := 40) (st' := [_]) rfl rfl ?_
      refine cl.get 19 (by decide) rfl (cw_c19 _) rfl ?_
      refine jx_T.step (pc' := 44) (st' := [_, _]) rfl rfl ?_
      refine jx_T.step (pc' := 46) (st' := [_, _, _]) rfl rfl ?_
      refine jx_T.step (pc' := 47) (st' := [_, _, _, _]) rfl rfl ?_
      refine jx_T.step (pc' := 48) (st' := [_, _, _, _, _]) rfl rfl ?_
      refine cl.v4V (hc_fix 22 (by decide) (cw_c22 _)) rfl (by decide) rfl ⟨Nat.le_of_ble_eq_true rfl, rfl⟩ (Nat.le_of_ble_eq_true rfl) (c2) ?_
      exact t3
end
