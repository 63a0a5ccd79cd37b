/-! HeatWorks is made; what stands then -/
theorem ha_nil (h : jx_H) : ha h 0 [] = h := by
  unfold ha
  refine Prod.ext rfl (Prod.ext rfl (funext fun a => ?_))
  show (if h.1 ≤ a ∧ a < h.1 + 0 then _ else h.2.2 a) = h.2.2 a
  rw [if_neg (by omega)]
def ha_g (g : Nat → Option jx_E) (l : List jx_E) : Nat → Option jx_E := fun a => if 35 ≤ a ∧ a < 35 + l.length then l[a - 35]? else g a
theorem ha_hc (W : cw) (g : Nat → Option jx_E) (s0 s : Nat) (l : List jx_E) : ha (hc W g 35 s0) s l = hc W (ha_g g l) (35 + l.length) (s0 + s) := by
  unfold ha hc ha_g
  refine Prod.ext rfl (Prod.ext rfl (funext fun a => ?_))
  show (if 35 ≤ a ∧ a < 35 + l.length then l[a - 35]? else if 1 ≤ a ∧ a < 35 then (cw_list W)[a - 1]? else g a) = if 1 ≤ a ∧ a < 35 then (cw_list W)[a - 1]? else if 35 ≤ a ∧ a < 35 + l.length then l[a - 35]? else g a
  by_cases y : 35 ≤ a ∧ a < 35 + l.length
  · rw [if_pos y, if_neg (by omega), if_pos y]
  · rw [if_neg y, if_neg y]
def k0_W : cw := (fun _ _ => 0, fun j => if j = 34 then vp_updL (vp_updL (vp_updL (vp_updL (fun _ => 0) 0 (-1)) 1 (-1)) 2 (-1)) 3 (-1) else fun _ => 0, fun j y => if j = 10 ∧ y = 5 then -1 else 0, fun _ _ => 0, fun _ => none, fun _ => .null)
def k0_s : Nat := kz56 (kz13 (kz18 (kz0 (10 + 201 + 6) + 8) + 4) + 5) + 4
section
variable (L : Nat) (xs : Nat → Int32)
theorem ki_88a (h2 : jx_H) (v : Option Value) (t : jx_T 88 109 [.ref 1] [] (hc k0_W (jx_h0 L xs).2.2 35 (0 + k0_s)) v h2) : jx_T 88 0 (jx_ent 88 [.ref ((jx_h0 L xs).1 + ([] : List jx_E).length)]) [] (ha (jx_h0 L xs) 10 (([] : List jx_E) ++ [.inr (11, jx_dfl.getD 11 [])])) v h2 := by
  show jx_T 88 0 [.ref ((jx_h0 L xs).1 + ([] : List jx_E).length)] [] _ _ _
  generalize hh : jx_h0 L xs = h at t ⊢
  refine jx_T.step (pc' := 1) (st' := [_]) rfl rfl ?_
  refine jx_T.step (pc' := 4) (st' := []) rfl rfl ?_
  refine jx_T.step (pc' := 5) (st' := [_]) rfl rfl ?_
  refine jx_T.step (pc' := 8) (st' := [_, _]) rfl rfl ?_
  refine ha.newA rfl (by decide) ?_
  refine ha.put rfl rfl rfl ?_
  refine jx_T.step (pc' := 15) (st' := [_]) rfl rfl ?_
  refine jx_T.step (pc' := 16) (st' := [_, _]) rfl rfl ?_
  refine ha.put rfl rfl rfl ?_
  refine jx_T.step (pc' := 20) (st' := [_]) rfl rfl ?_
  refine jx_T.step (pc' := 21) (st' := [_, _]) rfl rfl ?_
  refine ha.put rfl rfl rfl ?_
  refine jx_T.step (pc' := 25) (st' := [_]) rfl rfl ?_
  refine jx_T.step (pc' := 26) (st' := [_, _]) rfl rfl ?_
  refine ha.put rfl rfl rfl ?_
  refine jx_T.step (pc' := 30) (st' := [_]) rfl rfl ?_
  refine ha.newo rfl ?_
  refine jx_T.step (pc' := 34) (st' := [_, _, _]) rfl rfl ?_
  refine ha.init rfl (by decide) rfl (Nat.le_of_ble_eq_true rfl) (Nat.le_of_ble_eq_true rfl) (z := kz0) (fun p => ki_0 h _ p) ?_
  refine ha.put rfl rfl rfl ?_
  refine jx_T.step (pc' := 41) (st' := [_]) rfl rfl ?_
  refine ha.newo rfl ?_
  refine jx_T.step (pc' := 45) (st' := [_, _, _]) rfl rfl ?_
  refine ha.init rfl (by decide) rfl (Nat.le_of_ble_eq_true rfl) (Nat.le_of_ble_eq_true rfl) (z := kz18) (fun p => ki_18 h _ p) ?_
  refine ha.put rfl rfl rfl ?_
  refine jx_T.step (pc' := 52) (st' := [_]) rfl rfl ?_
  refine ha.newo rfl ?_
  refine jx_T.step (pc' := 56) (st' := [_, _, _]) rfl rfl ?_
  refine ha.init rfl (by decide) rfl (Nat.le_of_ble_eq_true rfl) (Nat.le_of_ble_eq_true rfl) (z := kz13) (fun p => ki_13 h _ p) ?_
  refine ha.put rfl rfl rfl ?_
  refine jx_T.step (pc' := 63) (st' := [_]) rfl rfl ?_
  refine ha.newo rfl ?_
  refine jx_T.step (pc' := 67) (st' := [_, _, _]) rfl rfl ?_
  refine ha.init rfl (by decide) rfl (Nat.le_of_ble_eq_true rfl) (Nat.le_of_ble_eq_true rfl) (z := kz56) (fun p => ki_56 h _ p) ?_
  refine ha.put rfl rfl rfl ?_
  refine jx_T.step (pc' := 74) (st' := [_]) rfl rfl ?_
  refine jx_T.step (pc' := 75) (st' := [_, _]) rfl rfl ?_
  refine ha.newL rfl (by decide) ?_
  refine jx_T.step (pc' := 78) (st' := [_, _, _]) rfl rfl ?_
  refine jx_T.step (pc' := 79) (st' := [_, _, _, _]) rfl rfl ?_
  refine jx_T.step (pc' := 82) (st' := [_, _, _, _, _]) rfl rfl ?_
  refine ha.last rfl (by decide) ?_
  refine jx_T.step (pc' := 84) (st' := [_, _, _]) rfl rfl ?_
  refine jx_T.step (pc' := 85) (st' := [_, _, _, _]) rfl rfl ?_
  refine jx_T.step (pc' := 88) (st' := [_, _, _, _, _]) rfl rfl ?_
  refine ha.last rfl (by decide) ?_
  refine jx_T.step (pc' := 90) (st' := [_, _, _]) rfl rfl ?_
  refine jx_T.step (pc' := 91) (st' := [_, _, _, _]) rfl rfl ?_
  refine jx_T.step (pc' := 94) (st' := [_, _, _, _, _]) rfl rfl ?_
  refine ha.last rfl (by decide) ?_
  refine jx_T.step (pc' := 96) (st' := [_, _, _]) rfl rfl ?_
  refine jx_T.step (pc' := 97) (st' := [_, _, _, _]) rfl rfl ?_
  refine jx_T.step (pc' := 100) (st' := [_, _, _, _, _]) rfl rfl ?_
  refine ha.last rfl (by decide) ?_
  refine ha.put rfl rfl rfl ?_
  refine jx_T.step (pc' := 105) (st' := [_]) rfl rfl ?_
  refine jx_T.step (pc' := 106) (st' := [_, _]) rfl rfl ?_
  refine ha.put rfl rfl rfl ?_
  subst hh
  exact t
def k1_W : cw := cw_P k0_W (va_up (fun _ => none) 0 (some 52))
def k1_g : Nat → Option jx_E := ha_g (jx_h0 L xs).2.2 (kc69 35)
def k1_s : Nat := 0 + k0_s + kz69 0
theorem ki_88 : jx_T 88 0 (jx_ent 88 [.ref ((jx_h0 L xs).1 + ([] : List jx_E).length)]) [] (ha (jx_h0 L xs) 10 (([] : List jx_E) ++ [.inr (11, jx_dfl.getD 11 [])])) none (hc k1_W (k1_g L xs) 56 k1_s) := by
  refine ki_88a L xs _ _ ?_
  have c := ki_69 (hc k0_W (jx_h0 L xs).2.2 35 (0 + k0_s)) 0
  rw [ha_nil, ha_hc] at c
  refine jx_T.step (pc' := 110) (st' := [_]) rfl rfl ?_
  refine cl.get 1 (by decide) rfl (cw_c1 _) rfl ?_
  refine jx_T.step (pc' := 114) (st' := [_, _]) rfl rfl ?_
  refine cl.s0I rfl (by decide) rfl (Nat.le_of_ble_eq_true rfl) (Nat.le_of_ble_eq_true rfl) (c) ?_
  refine cl.aastR ((show 35 ≤ 52 ∧ k1_g L xs 52 = some (.inr (9, [.int 10, .int 0, .ref 53, .ref 54, .ref 35, .ref 55])) from ⟨by decide, rfl⟩)).1 ((show 35 ≤ 52 ∧ k1_g L xs 52 = some (.inr (9, [.int 10, .int 0, .ref 53, .ref 54, .ref 35, .ref 55])) from ⟨by decide, rfl⟩)).2 rfl (by decide) ?_
  exact jx_T.ret rfl rfl
def k1_T : tv := (10, 0, fun _ => default, fun _ => none, fun _ => (0, fun _ => 0, fun _ => 0, fun _ => 0), fun _ => 0)
theorem k1_net (b : Nat) (hb : 36 ≤ b ∧ b ≤ 48) (h : (k1_g L xs b = some (.inr (4, [.int 0, .ref (b + 1), .ref (b + 2), .ref (b + 3)]))) ∧ k1_g L xs (b + 1) = some (.inl (0, 0, .inl fun _ => 0)) ∧ k1_g L xs (b + 2) = some (.inl (0, 0, .inl fun _ => 0)) ∧ k1_g L xs (b + 3) = some (.inl (0, 0, .inl fun _ => 0))) : im_net (k1_g L xs) b (0, fun _ => 0, fun _ => 0, fun _ => 0) :=
  ⟨b + 1, b + 2, b + 3, ⟨by omega, h.1⟩, ⟨show 35 ≤ b + 1 by omega, h.2.1⟩, ⟨show 35 ≤ b + 2 by omega, h.2.2.1⟩, ⟨show 35 ≤ b + 3 by omega, h.2.2.2⟩⟩
theorem k1_sta : im_sta (k1_g L xs) 52 k1_T := by
  refine ⟨53, 54, 35, 55, fun _ => none, fun _ => none, nz4 35, ⟨by decide, rfl⟩, ⟨by decide, rfl⟩, fun i hi => absurd hi (Nat.not_lt_zero i), ⟨by decide, rfl⟩, fun k _ => Or.inl ⟨rfl, rfl⟩, ⟨by decide, rfl⟩, fun k hk => ?_, ⟨by decide, rfl⟩⟩
  match k, hk with
  | 0, _ => exact ⟨36, rfl, k1_net L xs 36 (by decide) ⟨rfl, rfl, rfl, rfl⟩⟩
  | 1, _ => exact ⟨40, rfl, k1_net L xs 40 (by decide) ⟨rfl, rfl, rfl, rfl⟩⟩
  | 2, _ => exact ⟨44, rfl, k1_net L xs 44 (by decide) ⟨rfl, rfl, rfl, rfl⟩⟩
  | 3, _ => exact ⟨48, rfl, k1_net L xs 48 (by decide) ⟨rfl, rfl, rfl, rfl⟩⟩
  | k + 4, h => exact absurd h (by omega)
theorem k1_free (a : Nat) (ha : 56 ≤ a) : k1_g L xs a = none := by
  show (if 35 ≤ a ∧ a < 35 + 21 then _ else if a = 0 then _ else none) = none
  rw [if_neg (by omega), if_neg (by omega)]
theorem k1_script : k1_g L xs 0 = some (.inl (98, L, .inl xs)) := rfl
theorem k1_now : cl_now k1_W (k1_g L xs) 52 k1_T := ⟨⟨0, 0, by decide, by decide, rfl, rfl, rfl⟩, k1_sta L xs, ⟨by decide, fun i hi => absurd hi (Nat.not_lt_zero i)⟩⟩
end
