/-! the works' flows and plans -/
theorem ls_mul (c : Int) (ψ : gA → Int) : ∀ l, ls (fun a => c * ψ a) l = c * ls ψ l
  | [] => (Int.mul_zero c).symm
  | a :: l => by
    show c * ψ a + ls (fun a => c * ψ a) l = c * (ψ a + ls ψ l)
    rw [ls_mul c ψ l, Int.mul_add]
section
variable {N : Nat → Int32} {T : tv} {r : Nat → Int} {D : Int}
abbrev kL (N : Nat → Int32) (T : tv) : List Int32 := gr_lv N T.2.1
abbrev kCL (N : Nat → Int32) (T : tv) : List Nat := qk_a T (gr_lv N T.2.1) (pz_w T) (gr_lv N T.2.1).length
abbrev kIn (N : Nat → Int32) (T : tv) : List gA := (pz_a T (gr_lv N T.2.1) (pz_w T) (gr_lv N T.2.1).length).2.1
theorem cls_A (t : tls T N) : pz_A T = kIn N T ++ [(0, 2, (pz_ws T T.2.1).toInt64, 0)] ++ [(2, 3, (pz_ws T T.2.1).toInt64, 0)] ++ [(3, 1, (pz_gs T T.2.1).toInt64, 0)] ∧ (pz_Z T).1 = (pz_a T (gr_lv N T.2.1) (pz_w T) (gr_lv N T.2.1).length).1 := by
  unfold pz_A pz_Z
  rw [t.gL _ (Nat.le_refl _)]
  exact ⟨rfl, rfl⟩
theorem cls_in (t : tls T N) {a : gA} (h : a ∈ kIn N T) : (a.1 < (pz_Z T).1 ∧ a.2.1 < (pz_Z T).1) ∧ ca_ok T N (gr_lv N T.2.1) (pz_w T) (kCL N T) a := by
  have hL := gr_lv_len t
  rw [(cls_A t).2]
  exact (cls_ty t (by omega) (kCL N T) (List.prefix_refl _)).1 a h
theorem cls_mem (t : tls T N) {a : gA} (h : a ∈ pz_A T) : a ∈ kIn N T ∨ a = (0, 2, (pz_ws T T.2.1).toInt64, 0) ∨ a = (2, 3, (pz_ws T T.2.1).toInt64, 0) ∨ a = (3, 1, (pz_gs T T.2.1).toInt64, 0) := by
  rw [(cls_A t).1, List.mem_append, List.mem_append, List.mem_append, List.mem_singleton, List.mem_singleton, List.mem_singleton] at h
  rcases h with ((h | h) | h) | h
  · exact Or.inl h
  · exact Or.inr (Or.inl h)
  · exact Or.inr (Or.inr (Or.inl h))
  · exact Or.inr (Or.inr (Or.inr h))
theorem cls_ls (t : tls T N) (ψ : gA → Int) : ls ψ (pz_A T) = ls ψ (kIn N T) + ψ (0, 2, (pz_ws T T.2.1).toInt64, 0) + ψ (2, 3, (pz_ws T T.2.1).toInt64, 0) + ψ (3, 1, (pz_gs T T.2.1).toInt64, 0) := by
  rw [(cls_A t).1, ls_app, ls_app, ls_app, ls_1, ls_1, ls_1]
theorem hcl_in (t : tls T N) {i p : Nat} (hi : i < T.2.1) (hp : p < 2 * (gr_lv N T.2.1).length) : 0 ≤ hcl T (gr_lv N T.2.1) (pz_w T) (240 * i + p) ∧ hcl T (gr_lv N T.2.1) (pz_w T) (240 * i + p) ≤ 211200000 ∧ hcl T (gr_lv N T.2.1) (pz_w T) (240 * i + p) ≤ hr N (gr_lv N T.2.1) (240 * i + p) := by
  have hL := gr_lv_len t
  have w1 := w_i t
  have q := hc_hr t (pz_w T) hi hp
  have nn := gr_nn (L := gr_lv N T.2.1) t.k hi p
  rw [← hr_pl (N := N) (gr_lv N T.2.1) (i := i) (show p < 240 by omega)] at nn
  by_cases z : 3 ≤ N (2 + 24 * i)
  · rcases q.2 z with ⟨e1, e2⟩ | ⟨e1, e2⟩
    · rw [e1, e2, w1.1]
      omega
    · rw [e1, e2]
      omega
  · rw [q.1 z]
    have := nn.2.2 (n3_iff.mp z)
    omega
/-- the bounds of an arc inside -/
theorem cls_bd (t : tls T N) {a : gA} (h : a ∈ kIn N T) : (0 ≤ a.2.2.1.toInt ∧ a.2.2.1.toInt ≤ 211200000) ∧ (0 ≤ a.2.2.2.toInt ∧ a.2.2.2.toInt ≤ 1000) ∧ (a.2.2.2.toInt ≤ 0 ∨ a.1 = 2 ∨ a.2.1 = 3) ∧ ¬ a.2.1 = 0 ∧ ¬ a.2.1 = 2 ∧ ¬ a.1 = 1 ∧ ¬ a.1 = 3 := by
  obtain ⟨-, -, w⟩ := cls_in t h
  have w1 := w_i t
  have cs : ∀ s, s < T.2.1 → 0 ≤ cst N s ∧ cst N s ≤ 1000 ∧ (3 ≤ N (2 + 24 * s) ∨ cst N s = 0) := by
    intro s hs
    have q := (gcost_i t.k hs).2
    by_cases z : 3 ≤ N (2 + 24 * s)
    · have := q z
      exact ⟨by omega, by omega, Or.inl z⟩
    · have e : cst N s = 0 := if_neg z
      rw [e]
      exact ⟨by decide, by decide, Or.inr rfl⟩
  rcases w with ⟨s, p, hs, hp, hh, e1, e2, e3, e4, e5⟩ | ⟨s, p, hs, hp, hh, e1, e2, e3, e4, e5⟩ | ⟨e1, e2, -, -, e3, e4⟩
  · have c := cs s hs
    have b := hcl_in t hs hp
    rw [e4, e5]
    refine ⟨by omega, by omega, ?_, by omega, by omega, ?_, ?_⟩
    · rcases c.2.2 with z | z
      · rw [if_pos z] at e3
        exact Or.inr (Or.inl e3)
      · exact Or.inl (by omega)
    · rw [e3]
      split <;> decide
    · rw [e3]
      split <;> decide
  · have c := cs s hs
    have b := hcl_in t hs hp
    rw [e4, e5]
    refine ⟨by omega, by omega, ?_, ?_, ?_, by omega, by omega⟩
    · rcases c.2.2 with z | z
      · rw [if_pos z] at e3
        exact Or.inr (Or.inr e3)
      · exact Or.inl (by omega)
    · rw [e3]
      split <;> decide
    · rw [e3]
      split <;> decide
  · rw [e3, e4, w1.1]
    exact ⟨by omega, by omega, Or.inl (by omega), by omega, by omega, by omega, by omega⟩
theorem aux_i (t : tls T N) : ((pz_ws T T.2.1).toInt64).toInt = wI N T.2.1 ∧ ((pz_gs T T.2.1).toInt64).toInt = gI N T.2.1 ∧ 0 ≤ gI N T.2.1 ∧ 0 ≤ wI N T.2.1 ∧ gI N T.2.1 + wI N T.2.1 ≤ 211200000 := by
  obtain ⟨⟨h1, h2, h3⟩, h4, h5⟩ := gw_i t T.2.1 (Nat.le_refl _)
  have hM := t.k.1
  rw [rf_w, rf_w]
  exact ⟨h4, h1, h2, h5, by omega⟩
/-- sums over what gives and what takes -/
theorem cls_supS (t : tls T N) (G : Nat → Int) (hG : ∀ s p, s < T.2.1 → p < 2 * (gr_lv N T.2.1).length → hcl T (gr_lv N T.2.1) (pz_w T) (240 * s + p) = 0 → G (240 * s + p) = 0) : ls (fun a => if a.1 < 4 then G (cdv (kCL N T) a.2.1) else 0) (kIn N T) = sum2 T.2.1 (2 * (gr_lv N T.2.1).length) (fun i p => if hotB N i = true then G (240 * i + p) else 0) := by
  have hL := gr_lv_len t
  rw [cls_sup t (by omega) G hG (kCL N T) (List.prefix_refl _)]
  exact (fs_swap (fun i p => if hotB N i = true then G (240 * i + p) else 0) (2 * (gr_lv N T.2.1).length) T.2.1).symm
theorem cls_demS (t : tls T N) (G : Nat → Int) (hG : ∀ s p, s < T.2.1 → p < 2 * (gr_lv N T.2.1).length → hcl T (gr_lv N T.2.1) (pz_w T) (240 * s + p) = 0 → G (240 * s + p) = 0) : ls (fun a => if a.2.1 < 4 then G (cdv (kCL N T) a.1) else 0) (kIn N T) = sum2 T.2.1 (2 * (gr_lv N T.2.1).length) (fun i p => if hotB N i = true then 0 else G (240 * i + p)) := by
  have hL := gr_lv_len t
  rw [cls_dem t (by omega) G hG (kCL N T) (List.prefix_refl _)]
  exact (fs_swap (fun i p => if hotB N i = true then 0 else G (240 * i + p)) (2 * (gr_lv N T.2.1).length) T.2.1).symm
/-- the real ones' heats -/
theorem real_g (t : tls T N) : sum2 T.2.1 (2 * (gr_lv N T.2.1).length) (fun i p => if hotB N i = true then (if 3 ≤ N (2 + 24 * i) then 0 else hr N (gr_lv N T.2.1) (240 * i + p)) else 0) = gI N T.2.1 ∧ sum2 T.2.1 (2 * (gr_lv N T.2.1).length) (fun i p => if hotB N i = true then 0 else (if 3 ≤ N (2 + 24 * i) then 0 else hr N (gr_lv N T.2.1) (240 * i + p))) = wI N T.2.1 := by
  have hL := gr_lv_len t
  have each : ∀ i, i < T.2.1 → ¬ 3 ≤ N (2 + 24 * i) → fl_sum (fun p => hr N (gr_lv N T.2.1) (240 * i + p)) (2 * (gr_lv N T.2.1).length) = zT N i := by
    intro i hi h3
    rw [← hr_sum t.k hi h3]
    exact fl_sum_congr _ (fun p hp => hr_pl _ (by omega))
  constructor
  · refine fl_sum_congr _ (fun i hi => ?_)
    by_cases z : 3 ≤ N (2 + 24 * i)
    · rw [if_pos z]
      exact fs_0 _ (fun p _ => by show (if hotB N i = true then (if 3 ≤ N (2 + 24 * i) then 0 else hr N (gr_lv N T.2.1) (240 * i + p)) else 0) = 0; rw [if_pos z, ite_self])
    · rw [if_neg z]
      by_cases y : hotB N i = true
      · rw [if_pos y, ← each i hi z]
        exact fl_sum_congr _ (fun p _ => by show (if hotB N i = true then (if 3 ≤ N (2 + 24 * i) then 0 else hr N (gr_lv N T.2.1) (240 * i + p)) else 0) = _; rw [if_pos y, if_neg z])
      · rw [if_neg y]
        exact fs_0 _ (fun p _ => if_neg y)
  · refine fl_sum_congr _ (fun i hi => ?_)
    by_cases z : 3 ≤ N (2 + 24 * i)
    · rw [if_pos z]
      exact fs_0 _ (fun p _ => by show (if hotB N i = true then 0 else (if 3 ≤ N (2 + 24 * i) then 0 else hr N (gr_lv N T.2.1) (240 * i + p))) = 0; rw [if_pos z, ite_self])
    · rw [if_neg z]
      by_cases y : hotB N i = true
      · rw [if_pos y]
        exact fs_0 _ (fun p _ => if_pos y)
      · rw [if_neg y, ← each i hi z]
        exact fl_sum_congr _ (fun p _ => by show (if hotB N i = true then 0 else (if 3 ≤ N (2 + 24 * i) then 0 else hr N (gr_lv N T.2.1) (240 * i + p))) = _; rw [if_neg y, if_neg z])
theorem code_d {i p Q : Nat} (hp : p < Q) (hQ : Q ≤ 240) : (240 * i + p) / 240 = i := by omega
theorem cls_T0 (t : tls T N) : ls (fun a => a.2.2.1.toInt * zi (a.1 = 0)) (pz_A T) = gI N T.2.1 + wI N T.2.1 := by
  have hL := gr_lv_len t
  obtain ⟨x1, x2, -⟩ := aux_i t
  rw [cls_ls t]
  have e1 : ls (fun a => a.2.2.1.toInt * zi (a.1 = 0)) (kIn N T) = ls (fun a => if a.1 < 4 then (fun c => if 3 ≤ N (2 + 24 * (c / 240)) then 0 else hcl T (gr_lv N T.2.1) (pz_w T) c) (cdv (kCL N T) a.2.1) else 0) (kIn N T) := by
    refine ls_c _ (fun a ha => ?_)
    show a.2.2.1.toInt * zi (a.1 = 0) = if a.1 < 4 then (if 3 ≤ N (2 + 24 * (cdv (kCL N T) a.2.1 / 240)) then 0 else hcl T (gr_lv N T.2.1) (pz_w T) (cdv (kCL N T) a.2.1)) else 0
    obtain ⟨-, -, w⟩ := cls_in t ha
    rcases w with ⟨s, p, hs, hp, hh, e1, e2, e3, e4, e5⟩ | ⟨s, p, hs, hp, hh, e1, e2, e3, e4, e5⟩ | ⟨e1, e2, -, -, e3, e4⟩
    · rw [e1, code_d hp (by omega), e4, e3]
      by_cases z : 3 ≤ N (2 + 24 * s)
      · rw [if_pos z, if_pos z, if_pos (by decide), show zi (2 = 0) = 0 from rfl, Int.mul_zero]
      · rw [if_neg z, if_neg z, if_pos (by decide), show zi (0 = 0) = 1 from rfl, Int.mul_one]
    · rw [if_neg (show ¬ a.1 < 4 by omega), show zi (a.1 = 0) = 0 from if_neg (by omega), Int.mul_zero]
    · rw [if_neg (show ¬ a.1 < 4 by omega), show zi (a.1 = 0) = 0 from if_neg (by omega), Int.mul_zero]
  have e9 := cls_supS t (fun c => if 3 ≤ N (2 + 24 * (c / 240)) then 0 else hcl T (gr_lv N T.2.1) (pz_w T) c) (fun s p hs hp z => by
    show (if 3 ≤ N (2 + 24 * ((240 * s + p) / 240)) then 0 else hcl T (gr_lv N T.2.1) (pz_w T) (240 * s + p)) = 0
    rw [z, ite_self])
  have e2 : sum2 T.2.1 (2 * (gr_lv N T.2.1).length) (fun i p => if hotB N i = true then (fun c => if 3 ≤ N (2 + 24 * (c / 240)) then 0 else hcl T (gr_lv N T.2.1) (pz_w T) c) (240 * i + p) else 0) = gI N T.2.1 := by
    rw [← (real_g t).1]
    refine sum2_c (fun i p hi hp => ?_)
    show (if hotB N i = true then (if 3 ≤ N (2 + 24 * ((240 * i + p) / 240)) then 0 else hcl T (gr_lv N T.2.1) (pz_w T) (240 * i + p)) else 0) = _
    rw [code_d hp (by omega)]
    by_cases z : 3 ≤ N (2 + 24 * i)
    · rw [if_pos z, if_pos z]
    · rw [if_neg z, if_neg z, (hc_hr t (pz_w T) hi hp).1 z]
  rw [e1.trans (e9.trans e2)]
  show gI N T.2.1 + ((pz_ws T T.2.1).toInt64).toInt * zi (0 = 0) + ((pz_ws T T.2.1).toInt64).toInt * zi (2 = 0) + ((pz_gs T T.2.1).toInt64).toInt * zi (3 = 0) = _
  rw [x1, x2, show zi (0 = 0) = 1 from rfl, show zi (2 = 0) = 0 from rfl, show zi (3 = 0) = 0 from rfl]
  omega
theorem cls_Y1 (t : tls T N) : ls (fun a => a.2.2.1.toInt * zi (a.2.1 = 1)) (pz_A T) = gI N T.2.1 + wI N T.2.1 := by
  have hL := gr_lv_len t
  obtain ⟨x1, x2, -⟩ := aux_i t
  rw [cls_ls t]
  have e1 : ls (fun a => a.2.2.1.toInt * zi (a.2.1 = 1)) (kIn N T) = ls (fun a => if a.2.1 < 4 then (fun c => if 3 ≤ N (2 + 24 * (c / 240)) then 0 else hcl T (gr_lv N T.2.1) (pz_w T) c) (cdv (kCL N T) a.1) else 0) (kIn N T) := by
    refine ls_c _ (fun a ha => ?_)
    show a.2.2.1.toInt * zi (a.2.1 = 1) = if a.2.1 < 4 then (if 3 ≤ N (2 + 24 * (cdv (kCL N T) a.1 / 240)) then 0 else hcl T (gr_lv N T.2.1) (pz_w T) (cdv (kCL N T) a.1)) else 0
    obtain ⟨-, -, w⟩ := cls_in t ha
    rcases w with ⟨s, p, hs, hp, hh, e1, e2, e3, e4, e5⟩ | ⟨s, p, hs, hp, hh, e1, e2, e3, e4, e5⟩ | ⟨e1, e2, -, -, e3, e4⟩
    · rw [if_neg (show ¬ a.2.1 < 4 by omega), show zi (a.2.1 = 1) = 0 from if_neg (by omega), Int.mul_zero]
    · rw [e1, code_d hp (by omega), e4, e3]
      by_cases z : 3 ≤ N (2 + 24 * s)
      · rw [if_pos z, if_pos z, if_pos (by decide), show zi (3 = 1) = 0 from rfl, Int.mul_zero]
      · rw [if_neg z, if_neg z, if_pos (by decide), show zi (1 = 1) = 1 from rfl, Int.mul_one]
    · rw [if_neg (show ¬ a.2.1 < 4 by omega), show zi (a.2.1 = 1) = 0 from if_neg (by omega), Int.mul_zero]
  have e9 := cls_demS t (fun c => if 3 ≤ N (2 + 24 * (c / 240)) then 0 else hcl T (gr_lv N T.2.1) (pz_w T) c) (fun s p hs hp z => by
    show (if 3 ≤ N (2 + 24 * ((240 * s + p) / 240)) then 0 else hcl T (gr_lv N T.2.1) (pz_w T) (240 * s + p)) = 0
    rw [z, ite_self])
  have e2 : sum2 T.2.1 (2 * (gr_lv N T.2.1).length) (fun i p => if hotB N i = true then 0 else (fun c => if 3 ≤ N (2 + 24 * (c / 240)) then 0 else hcl T (gr_lv N T.2.1) (pz_w T) c) (240 * i + p)) = wI N T.2.1 := by
    rw [← (real_g t).2]
    refine sum2_c (fun i p hi hp => ?_)
    show (if hotB N i = true then 0 else (if 3 ≤ N (2 + 24 * ((240 * i + p) / 240)) then 0 else hcl T (gr_lv N T.2.1) (pz_w T) (240 * i + p))) = _
    rw [code_d hp (by omega)]
    by_cases z : 3 ≤ N (2 + 24 * i)
    · rw [if_pos z, if_pos z]
    · rw [if_neg z, if_neg z, (hc_hr t (pz_w T) hi hp).1 z]
  rw [e1.trans (e9.trans e2)]
  show wI N T.2.1 + ((pz_ws T T.2.1).toInt64).toInt * zi (2 = 1) + ((pz_ws T T.2.1).toInt64).toInt * zi (3 = 1) + ((pz_gs T T.2.1).toInt64).toInt * zi (1 = 1) = _
  rw [x1, x2, show zi (2 = 1) = 0 from rfl, show zi (3 = 1) = 0 from rfl, show zi (1 = 1) = 1 from rfl]
  omega
theorem cls_all (t : tls T N) {a : gA} (h : a ∈ pz_A T) : (a.1 < (pz_Z T).1 ∧ a.2.1 < (pz_Z T).1) ∧ (0 ≤ a.2.2.1.toInt ∧ a.2.2.1.toInt ≤ 211200000) ∧ (0 ≤ a.2.2.2.toInt ∧ a.2.2.2.toInt ≤ 1000) ∧ (a.2.2.2.toInt ≤ 0 ∨ a.1 = 2 ∨ a.2.1 = 3) ∧ ¬ a.2.1 = 0 ∧ ¬ a.1 = 1 := by
  have hL := gr_lv_len t
  obtain ⟨x1, x2, x3, x4, x5⟩ := aux_i t
  have z4 : 4 ≤ (pz_Z T).1 := by
    rw [(cls_A t).2, (cls_ty t (by omega) (kCL N T) (List.prefix_refl _)).2]
    omega
  rcases cls_mem t h with h | rfl | rfl | rfl
  · have q1 := (cls_in t h).1
    have q2 := cls_bd t h
    exact ⟨q1, q2.1, q2.2.1, q2.2.2.1, q2.2.2.2.1, q2.2.2.2.2.2.1⟩
  · refine ⟨⟨by show 0 < (pz_Z T).1; omega, by show 2 < (pz_Z T).1; omega⟩, ?_, ?_, Or.inl (by show (0 : Int32).toInt ≤ 0; decide), by show ¬ (2 : Nat) = 0; decide, by show ¬ (0 : Nat) = 1; decide⟩
    · show 0 ≤ ((pz_ws T T.2.1).toInt64).toInt ∧ ((pz_ws T T.2.1).toInt64).toInt ≤ 211200000
      omega
    · show 0 ≤ (0 : Int32).toInt ∧ (0 : Int32).toInt ≤ 1000
      decide
  · refine ⟨⟨by show 2 < (pz_Z T).1; omega, by show 3 < (pz_Z T).1; omega⟩, ?_, ?_, Or.inl (by show (0 : Int32).toInt ≤ 0; decide), by show ¬ (3 : Nat) = 0; decide, by show ¬ (2 : Nat) = 1; decide⟩
    · show 0 ≤ ((pz_ws T T.2.1).toInt64).toInt ∧ ((pz_ws T T.2.1).toInt64).toInt ≤ 211200000
      omega
    · show 0 ≤ (0 : Int32).toInt ∧ (0 : Int32).toInt ≤ 1000
      decide
  · refine ⟨⟨by show 3 < (pz_Z T).1; omega, by show 1 < (pz_Z T).1; omega⟩, ?_, ?_, Or.inl (by show (0 : Int32).toInt ≤ 0; decide), by show ¬ (1 : Nat) = 0; decide, by show ¬ (3 : Nat) = 1; decide⟩
    · show 0 ≤ ((pz_gs T T.2.1).toInt64).toInt ∧ ((pz_gs T T.2.1).toInt64).toInt ≤ 211200000
      omega
    · show 0 ≤ (0 : Int32).toInt ∧ (0 : Int32).toInt ≤ 1000
      decide
theorem cls_len (t : tls T N) : (pz_Z T).1 ≤ 1300 ∧ (pz_A T).length ≤ 5835 ∧ 4 ≤ (pz_Z T).1 := by
  have hL := gr_lv_len t
  have len := pz_a_len (T := T) t.k.1 (gr_lv N T.2.1) (pz_w T) (gr_lv N T.2.1).length
  have z4 := (cls_ty t (w := pz_w T) (by omega) (kCL N T) (List.prefix_refl _)).2
  rw [(cls_A t).1, (cls_A t).2, List.length_append, List.length_append, List.length_append]
  show _ ∧ _ + 1 + 1 + 1 ≤ 5835 ∧ _
  refine ⟨by omega, ?_, by omega⟩
  have : (kIn N T).length ≤ 54 * (gr_lv N T.2.1).length := len.2
  omega
end
