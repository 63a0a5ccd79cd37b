/-! the works' network: pushes -/
def nq_FL (A : List gA) (P : Nat → Int) (r : Nat → Int) (D c : Int) : Prop := fl_ok A.length (pcap A) r ∧ fl_div A.length (pT A) (pY A) r 0 1 D ∧ fl_cost A.length (pC A) r = c ∧ fl_pv A.length (pT A) (pY A) (pC A) r P
theorem fl_ls_app (w : Nat → Int) : ∀ (x y : List Nat), fl_ls w (x ++ y) = fl_ls w x + fl_ls w y
  | [], y => by
    show fl_ls w y = 0 + fl_ls w y
    omega
  | i :: x, y => by
    show w i + fl_ls w (x ++ y) = w i + fl_ls w x + fl_ls w y
    rw [fl_ls_app w x y]
    omega
theorem fl_ls_rev (w : Nat → Int) : ∀ l : List Nat, fl_ls w l.reverse = fl_ls w l
  | [] => rfl
  | i :: l => by
    rw [List.reverse_cons, fl_ls_app, fl_ls_rev w l]
    show fl_ls w l + (w i + 0) = w i + fl_ls w l
    omega
theorem nd_rev : ∀ {l : List Nat}, l.Nodup → l.reverse.Nodup
  | [], _ => List.nodup_nil
  | i :: l, h => by
    rw [List.nodup_cons] at h
    rw [List.reverse_cons, List.nodup_append]
    refine ⟨nd_rev h.2, by simp, fun a ha b hb => ?_⟩
    rw [List.mem_singleton] at hb
    rw [hb]
    exact fun q => h.1 (by rw [← q]; exact List.mem_reverse.mp ha)
theorem nq_push {A : List gA} {P r : Nat → Int} {D c δ : Int} {q : List Nat} (hp : fl_pair A.length (pT A) (pY A) (pC A)) (fl : nq_FL A P r D c) (way : fl_way (pT A) (pY A) 0 1 q) (nd : q.Nodup) (hq : ∀ i, i ∈ q → i < 2 * A.length ∧ δ ≤ r i ∧ P (pY A i) = P (pT A i) + pC A i) (hδ : 0 < δ) : nq_FL A P (fl_up δ r q.reverse) (D + δ) (c + δ * (P 1 - P 0)) := by
  obtain ⟨ok, dv, co, pv⟩ := fl
  have nr : q.reverse.Nodup := nd_rev nd
  have mr : ∀ {i}, i ∈ q.reverse → i ∈ q := fun h => List.mem_reverse.mp h
  refine ⟨fl_up_ok (by omega) q.reverse nr (fun i hi => (hq i (mr hi)).2.1) ok, fun p => ?_, ?_, fl_up_pv hp hδ q.reverse nr (fun i hi => hq i (mr hi)) pv⟩
  · rw [fl_up_wt _ _ _ _ (fun i hi => (hq i (mr hi)).1), dv p, fl_ls_rev, fl_way_p hp p (fun i hi => (hq i hi).1) way, Int.add_mul]
  · unfold fl_cost at co ⊢
    rw [fl_up_wt _ _ _ _ (fun i hi => (hq i (mr hi)).1), co, fl_ls_rev, fl_way_c hp P (fun i hi => ⟨(hq i hi).1, (hq i hi).2.2⟩) way]
theorem fl_way_mid {T Y : Nat → Nat} {s : Nat} : ∀ (x : List Nat) (i : Nat) (y : List Nat) (t : Nat), fl_way T Y s t (x ++ i :: y) → fl_way T Y s (T i) y
  | [], _, _, _, h => h.2
  | _ :: x, i, y, _, h => fl_way_mid x i y _ h.2
theorem nodup_of_map {f : Nat → Nat} : ∀ {l : List Nat}, (l.map f).Nodup → l.Nodup
  | [], _ => List.nodup_nil
  | i :: l, h => by
    rw [List.map_cons, List.nodup_cons] at h
    exact List.nodup_cons.mpr ⟨fun q => h.1 (List.mem_map.mpr ⟨i, q, rfl⟩), nodup_of_map h.2⟩
section
variable {g : Nat → Option jx_E} {nx s : Nat} {W W1 : cw} {A : List gA} {N : Nat} {F : Nat → Option Int} {P : Nat → Int} {q : List Nat} {a : Nat} {sn : Nat → Bool} {tn : Nat → List Nat} {r : Nat → Int} {D c : Int}
/-- what is known of the arcs: pairs, caps, potential beside labels, most flow -/
def nq_env2 (A : List gA) (F : Nat → Option Int) (P : Nat → Int) : Prop := fl_pair A.length (pT A) (pY A) (pC A) ∧ (∀ e, e < A.length → pcap A e ≤ 2 ^ 28) ∧ (∀ v x, F v = some x → P v = x) ∧ ∀ r D c, nq_FL A P r D c → D ≤ 2 ^ 28
theorem nq_FL.nn (fl : nq_FL A P r D c) : ∀ i, i < 2 * A.length → 0 ≤ r i := fun i hi => by
  obtain ⟨e, he, h⟩ := pr_half hi
  have := fl.1 e he
  rcases h with h | h <;> rw [h] <;> omega
theorem kc_sA (E : nq_env W A N F) (E2 : nq_env2 A F P) (J : nq_J W W1 A N F q 1 sn tn r) (fl : nq_FL A P r D c) (D0 : Int) (h0 : 0 ≤ D0) (hD : D0 ≤ D) (sum : Int32) (hs : sum.toInt = D - D0) (n : Nat) (u7 : Value) : ∃ W2 q2 a2 sn2 r2 δ sum2, 0 < δ ∧ nq_J W W2 A N F q2 a2 sn2 tn r2 ∧ nq_FL A P r2 (D + δ) (c + δ * (P 1 - P 0)) ∧ sum2.toInt = D + δ - D0 ∧ ∀ v h2, jx_T 44 99 [.ref 22, .int 0, .int 1, .int sum2, .int (nI q2.length), .int (nI a2), .int (nI n), u7] [] (hc W2 g nx s) v h2 → jx_T 44 66 [.ref 22, .int 0, .int 1, .int sum, .int (nI q.length), .int (nI 1), .int (nI n), u7] [] (hc W1 g nx s) v h2 := by
  have ln := J.len E
  have nn := fl.nn
  obtain ⟨hp, hcap, hPF, hDm⟩ := E2
  obtain ⟨wf, hA, K, hF, sm, f0, hN⟩ := E
  obtain ⟨j1, j2, j3, j4, j6, j7, j8, j9, j10⟩ := J
  have hN2 := wf.2.1
  have hq1 : 1 ≤ q.length := by
    cases q with
    | nil => exact absurd (show 1 = 0 from j7) (by decide)
    | cons i l => rw [List.length_cons]; omega
  have nd : q.Nodup := nodup_of_map j8.1
  obtain ⟨l, el⟩ : ∃ l, l = q.reverse := ⟨_, rfl⟩
  have ll : l.length = q.length := by rw [el, List.length_reverse]
  have lm : ∀ {i}, i ∈ l → i ∈ q := fun h => by rw [el] at h; exact List.mem_reverse.mp h
  obtain ⟨f, cp, R2⟩ := kc_pushPath (g := g) (nx := nx) (s := s) W1 A (pcap A) hcap hA j2 fl.1 l (by omega) (by rw [el]; exact nd_rev nd) (fun i hi => ⟨(j9 i (lm hi)).1, (j9 i (lm hi)).2.1⟩) (fun j hj => by rw [el]; exact j6 j (by omega))
  obtain ⟨δ, eδ⟩ : ∃ δ, δ = pm_min r 2147483647 l := ⟨_, rfl⟩
  rw [← eδ] at cp R2
  have hδ0 : 0 < δ := by rw [eδ]; exact pm_min_pos r l _ (by decide) (fun i h => (j9 i (lm h)).2.1)
  have hδ1 : ∀ i, i ∈ l → δ ≤ r i := by rw [eδ]; exact (pm_min_le r l 2147483647).2
  have tight : ∀ i, i ∈ q → P (pY A i) = P (pT A i) + pC A i := fun i hi => by
    obtain ⟨x, x1, x2⟩ := (j9 i hi).2.2.1
    rw [hPF _ _ x1, hPF _ _ x2]
  have fl2 := nq_push hp fl j7 nd (fun i hi => ⟨(j9 i hi).1, hδ1 i (by rw [el]; exact List.mem_reverse.mpr hi), tight i hi⟩) hδ0
  rw [← el] at fl2
  have hb := hDm _ _ _ fl2
  have eI : (Int32.ofInt δ).toInt = δ := by
    rw [Int32.toInt_ofInt, show Int32.size = 2 ^ 32 from rfl]
    exact Int.bmod_eq_of_le (by omega) (by omega)
  have j1b : km_f W (cw_A W1 26 f) := j1.tr (km_f.A (by decide))
  obtain ⟨k, f2, hk, cc, hpos, hsn⟩ := kc_cutPath (g := g) (nx := nx) (s := s) (cw_A W1 26 f) A N (fl_up δ r l) sn hA hN2 (j1b.H K) R2 l (by omega) (by omega) (fun i hi => ⟨(j9 i (lm hi)).1, (wf.2.2 i (by rw [hv_len]; exact (j9 i (lm hi)).1)).2.1⟩) (fun j hj => by rw [cw_An _ _ _ (by decide), el]; exact j6 j (by omega)) (fun v hvN => by rw [cw_An _ _ _ (by decide)]; exact j3 v hvN)
  have hkm : l.getD k 0 ∈ l := by simp [List.getD_eq_getElem?_getD, hk]
  obtain ⟨m1, -, -, -⟩ := j9 _ (lm hkm)
  have hx1 : (l.getD k 0) ^^^ 1 < 2 * A.length ∧ pY A ((l.getD k 0) ^^^ 1) = pT A (l.getD k 0) := by
    obtain ⟨e, he, hie⟩ := pr_half m1
    have pe := hp e he
    rcases hie with h | h
    · rw [h, fl_x0]
      exact ⟨by omega, pe.2.1⟩
    · rw [h, fl_x1]
      exact ⟨by omega, pe.1.symm⟩
  have esp : l = l.take k ++ l.getD k 0 :: l.drop (k + 1) := by
    conv => lhs; rw [← List.take_append_drop k l]
    rw [List.drop_eq_getElem_cons hk]
    simp [List.getD_eq_getElem?_getD, hk]
  have eq : q = (l.drop (k + 1)).reverse ++ l.getD k 0 :: (l.take k).reverse := by
    have h1 : q = l.reverse := by rw [el, List.reverse_reverse]
    rw [h1]
    conv => lhs; rw [esp]
    rw [List.reverse_append, List.reverse_cons, List.append_assoc]
    rfl
  have tk : ∀ {i}, i ∈ l.take k → i ∈ q := fun h => lm (List.mem_of_mem_take h)
  have ndl : (l.map (pY A)).Nodup := by rw [el, List.map_reverse]; exact nd_rev j8.1
  have eW : ∀ j, j ≠ 26 → j ≠ 30 → (cw_A (cw_A W1 26 f) 30 f2).1 j = W1.1 j := fun j h1 h2 => by rw [cw_An _ _ _ h2, cw_An _ _ _ h1]
  have ap : ∀ i, i ∈ l.take k → pY A i ∉ (l.drop k).map (pY A) := by
    intro i hi hm
    have e2 : l.map (pY A) = (l.take k).map (pY A) ++ (l.drop k).map (pY A) := by rw [← List.map_append, List.take_append_drop]
    rw [e2, List.nodup_append] at ndl
    exact ndl.2.2 _ (List.mem_map.mpr ⟨i, hi, rfl⟩) _ hm rfl
  have fl2' := fl2
  refine ⟨cw_A (cw_A W1 26 f) 30 f2, (l.take k).reverse, pT A (l.getD k 0), ct_sn sn A (l.drop k), fl_up δ r l, δ, sum + Int32.ofInt δ, hδ0, ⟨j1b.tr (km_f.A (by decide)), fun j hj => by rw [cw_An _ _ _ (by decide)]; exact R2 j hj, fun v hvN => by rw [cw_Ae]; exact hsn v hvN, fun v hvN => by rw [eW 31 (by decide) (by decide)]; exact j4 v hvN, fun j hj => ?_, ?_, ⟨?_, ?_⟩, fun i hi => ?_, ?_⟩, fl2', ?_, fun v h2 t => ?_⟩
  · rw [List.length_reverse, List.length_take] at hj
    rw [eW 32 (by decide) (by decide), j6 j (by omega), List.reverse_reverse, ← el]
    rw [List.getD_eq_getElem?_getD, List.getD_eq_getElem?_getD, List.getElem?_take, if_pos (by omega)]
  · rw [eq] at j7
    exact fl_way_mid _ _ _ _ j7
  · rw [List.map_reverse]
    refine nd_rev ?_
    have e2 : l.map (pY A) = (l.take k).map (pY A) ++ (l.drop k).map (pY A) := by rw [← List.map_append, List.take_append_drop]
    rw [e2, List.nodup_append] at ndl
    exact ndl.1
  · intro hm
    obtain ⟨i, i1, i2⟩ := List.mem_map.mp hm
    exact j8.2 (List.mem_map.mpr ⟨i, tk (List.mem_reverse.mp i1), i2⟩)
  · have hi2 := List.mem_reverse.mp hi
    obtain ⟨b1, b2, b3, b4⟩ := j9 i (tk hi2)
    refine ⟨b1, ?_, b3, ?_⟩
    · obtain ⟨j, hj, ej⟩ := List.getElem_of_mem hi2
      rw [List.length_take] at hj
      have := hpos j (by omega)
      rw [List.getElem_take] at ej
      rw [List.getD_eq_getElem?_getD, List.getElem?_eq_getElem (by omega), Option.getD_some, ej] at this
      exact this
    · unfold ct_sn
      rw [b4, decide_eq_false (ap i hi2)]
      rfl
  · unfold ct_sn
    rw [j10, decide_eq_false (fun hm => by
      obtain ⟨i, i1, i2⟩ := List.mem_map.mp hm
      exact j8.2 (List.mem_map.mpr ⟨i, lm (List.mem_of_mem_drop i1), i2⟩))]
    rfl
  · rw [Int32.toInt_add, hs, eI]
    rw [show D - D0 + δ = D + δ - D0 by omega]
    exact Int.bmod_eq_of_le (by omega) (by omega)
  · have KW := K.2.2.1 ((l.getD k 0) ^^^ 1) (by rw [hv_len]; exact hx1.1)
    have e1 : W1.1 24 ((l.getD k 0) ^^^ 1) = nI (pT A (l.getD k 0)) := by
      rw [j1.1 24 (by decide) (by decide) (by decide) (by decide), KW.1]
      exact congrArg nI hx1.2
    have e2 : W1.1 32 k = nI (l.getD k 0) := by rw [j6 k (by omega), ← el]
    rw [List.length_reverse, List.length_take, Nat.min_eq_left (by omega)] at t
    rw [ll] at cp cc
    refine jx_T.step (pc' := 67) (st' := [_]) rfl rfl ?_
    refine jx_T.step (pc' := 68) (st' := [_, _]) rfl rfl ?_
    refine jx_T.step (pc' := 70) (st' := [_, _, _]) rfl rfl ?_
    refine cl.v1I (hc_fix 22 (by decide) (cw_c22 _)) rfl (by decide) rfl ⟨Nat.le_of_ble_eq_true rfl, rfl⟩ (Nat.le_of_ble_eq_true rfl) (cp) ?_
    refine jx_T.step (pc' := 74) (st' := [_]) rfl rfl ?_
    refine jx_T.step (pc' := 75) (ls' := [_, _, _, _, _, _, _, _]) (st' := []) rfl rfl ?_
    refine jx_T.step (pc' := 76) (st' := [_]) rfl rfl ?_
    refine jx_T.step (pc' := 78) (st' := [_, _]) rfl rfl ?_
    refine cl.v1I (hc_fix 22 (by decide) (cw_c22 _)) rfl (by decide) rfl ⟨Nat.le_of_ble_eq_true rfl, rfl⟩ (Nat.le_of_ble_eq_true rfl) (cc) ?_
    refine jx_T.step (pc' := 83) (ls' := [_, _, _, _, _, _, _, _]) (st' := []) rfl rfl ?_
    refine jx_T.step (pc' := 84) (st' := [_]) rfl rfl ?_
    refine cl.get 22 (by decide) rfl (cw_c22 _) rfl ?_
    refine jx_T.step (pc' := 88) (st' := [_, _]) rfl rfl ?_
    refine cl.get 22 (by decide) rfl (cw_c22 _) rfl ?_
    refine jx_T.step (pc' := 93) (st' := [_, _, _]) rfl rfl ?_
    refine cl.iald 32 (by decide) rfl (cw_c32 _) (rf_ix (by omega) (by decide)) ?_
    rw [nI_clamp (by omega), eW 32 (by decide) (by decide), e2]
    refine jx_T.step (pc' := 95) (st' := [_, _, _]) rfl rfl ?_
    refine jx_T.step (pc' := 96) (st' := [_, _]) rfl rfl ?_
    rw [rf_lit 1, bt_xor]
    refine cl.iald 24 (by decide) rfl (cw_c24 _) (rf_ix (by omega) (by decide)) ?_
    rw [nI_clamp (by omega), eW 24 (by decide) (by decide), e1]
    refine jx_T.step (pc' := 99) (ls' := [_, _, _, _, _, _, _, _]) (st' := []) rfl rfl ?_
    exact t
end
