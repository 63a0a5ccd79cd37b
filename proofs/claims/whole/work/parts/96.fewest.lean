/-! the works: fewest, whole -/
def hf_ans (l : List Int64) : Int32 := nI l.length - hp_ans l
def tw_fa (T : tv) : Nat → Int64 := tw_a T 3 (tw_L T 3)
def tw_fb (T : tv) : Nat → Int64 := tw_b T 3 (tw_L T 3)
def tw_fn (T : tv) : Nat := (tw_L T 3).length
def tw_fv (T : tv) : Int64 := -(cf_mn (tw_fa T) (tw_fb T) (tw_fn T))
def tw_fc (T : tv) : Int64 := ca_c (tw_fa T) (tw_fb T) (tw_fn T)
abbrev tw_wh (T : tv) (k : Int32) : Prop := k = -1 ∧ tw_p T 3 0 = -1
def tw_fl (T : tv) (k b : Int32) : List Int64 := fh_l T ((tw_L T 3).getD (tw_p T 3 k).toNatClampNeg 0) (if cf_su (tw_fa T) (tw_fb T) (tw_p T 3 k).toNatClampNeg + tw_fv T = 0 then 0 else 1) b (decide (0 ≤ (tw_p T 3 k).toInt ∧ (tw_p T 3 k).toInt < (tw_L T 3).length)) T.2.1
def tw_f1 (T : tv) (k b : Int32) : List Int64 := if tw_wh T k ∨ b = 0 then fw_add (tw_fl T k b) (tw_fv T) else tw_fl T k b
def tw_f2 (T : tv) (k b : Int32) : List Int64 := if tw_wh T k ∨ ¬ b = 0 then fw_add (tw_f1 T k b) (-(tw_fc T)) else tw_f1 T k b
def tw_few (T : tv) (k b : Int32) : Int32 := if tw_p T 3 k = -1 ∧ ¬ tw_wh T k then -1 else hf_ans (tw_f2 T k b)
theorem tw_f1_len (T : tv) (k b : Int32) : (tw_f1 T k b).length ≤ T.2.1 + 1 := by
  unfold tw_f1
  have := fh_len T ((tw_L T 3).getD (tw_p T 3 k).toNatClampNeg 0) (if cf_su (tw_fa T) (tw_fb T) (tw_p T 3 k).toNatClampNeg + tw_fv T = 0 then 0 else 1) b (decide (0 ≤ (tw_p T 3 k).toInt ∧ (tw_p T 3 k).toInt < (tw_L T 3).length)) T.2.1
  have := fw_len (tw_fl T k b) (tw_fv T)
  unfold tw_fl at *
  split <;> omega
theorem tw_f2_len (T : tv) (k b : Int32) : (tw_f2 T k b).length ≤ T.2.1 + 2 := by
  unfold tw_f2
  have := tw_f1_len T k b
  have := fw_len (tw_f1 T k b) (-(tw_fc T))
  split <;> omega
section
variable {W : cw} {g : Nat → Option jx_E} {x : Nat} {T : tv} (nx s : Nat)
theorem kc_fewest (n : cl_now W g x T) (k b : Int32) : ∃ W2, jx_T 124 0 (jx_ent 124 [.ref 1, .int k, .int b]) [] (hc W g nx s) (some (.int (tw_few T k b))) (hc W2 g nx s) ∧ kq_f W W2 := by
  have hl := tw_len n.2.2 3
  have hM := n.2.2.1
  obtain ⟨W1, c1, I1, f1⟩ := kc_runT nx s n 3
  have n1 := n.A f1
  have cp := kc_placeOfPinch g nx s I1 (by omega) k
  have c0 := kc_placeOfPinch g nx s I1 (by omega) 0
  have q1 := f1.Q
  have head : ∀ {v : Option Value} {h2 : jx_H}, jx_T 124 45 [.ref 1, .int k, .int b, .int (tw_p T 3 k), .int (rf_o (tw_wh T k))] [] (hc W1 g nx s) v h2 → jx_T 124 0 (jx_ent 124 [.ref 1, .int k, .int b]) [] (hc W g nx s) v h2 := by
    intro v h2 t
    show jx_T 124 0 [.ref 1, .int k, .int b, .retAddr 0, .retAddr 0] [] _ _ _
    refine jx_T.step (pc' := 1) (st' := [_]) rfl rfl ?_
    refine cl.get 1 (by decide) rfl (cw_c1 _) rfl ?_
    refine jx_T.step (pc' := 5) (st' := [_, _]) rfl rfl ?_
    refine cl.v0I (hc_fix 1 (by decide) (cw_c1 _)) rfl (by decide) rfl ⟨Nat.le_of_ble_eq_true rfl, rfl⟩ (Nat.le_of_ble_eq_true rfl) (kc_now nx s n) ?_
    refine jx_T.step (pc' := 9) (st' := [_, _, _]) rfl rfl ?_
    refine cl.v2V (hc_fix 3 (by decide) (cw_c3 _)) rfl (by decide) rfl ⟨Nat.le_of_ble_eq_true rfl, rfl⟩ (Nat.le_of_ble_eq_true rfl) (c1) ?_
    refine jx_T.step (pc' := 13) (st' := [_]) rfl rfl ?_
    refine cl.get 1 (by decide) rfl (cw_c1 _) rfl ?_
    refine jx_T.step (pc' := 17) (st' := [_, _]) rfl rfl ?_
    refine cl.v1I (hc_fix 3 (by decide) (cw_c3 _)) rfl (by decide) rfl ⟨Nat.le_of_ble_eq_true rfl, rfl⟩ (Nat.le_of_ble_eq_true rfl) (cp) ?_
    refine jx_T.step (pc' := 21) (ls' := [_, _, _, _, _]) (st' := []) rfl rfl ?_
    refine jx_T.step (pc' := 22) (st' := [_]) rfl rfl ?_
    refine jx_T.step (pc' := 23) (st' := [_, _]) rfl rfl ?_
    by_cases z : k = -1
    · refine cl.bcn rfl (fun zq => absurd (z) zq) (fun _ => ?_)
      refine jx_T.step (pc' := 27) (st' := [_]) rfl rfl ?_
      refine cl.get 1 (by decide) rfl (cw_c1 _) rfl ?_
      refine jx_T.step (pc' := 31) (st' := [_, _]) rfl rfl ?_
      refine cl.v1I (hc_fix 3 (by decide) (cw_c3 _)) rfl (by decide) rfl ⟨Nat.le_of_ble_eq_true rfl, rfl⟩ (Nat.le_of_ble_eq_true rfl) (c0) ?_
      refine jx_T.step (pc' := 35) (st' := [_, _]) rfl rfl ?_
      by_cases y : tw_p T 3 0 = -1
      · rw [rf_ot (P := tw_wh T k) ⟨z, y⟩] at t
        refine cl.bcn rfl (fun zq => absurd (y) zq) (fun _ => ?_)
        refine jx_T.step (pc' := 39) (st' := [_]) rfl rfl ?_
        refine jx_T.step (pc' := 43) (st' := [_]) rfl rfl ?_
        refine jx_T.step (pc' := 45) (ls' := [_, _, _, _, _]) (st' := []) rfl rfl ?_
        exact t
      · rw [rf_of (P := tw_wh T k) (fun q => y q.2)] at t
        refine cl.bcn rfl (fun _ => ?_) (fun zq => absurd zq (y))
        refine jx_T.step (pc' := 43) (st' := [_]) rfl rfl ?_
        refine jx_T.step (pc' := 45) (ls' := [_, _, _, _, _]) (st' := []) rfl rfl ?_
        exact t
    · rw [rf_of (P := tw_wh T k) (fun q => z q.1)] at t
      refine cl.bcn rfl (fun _ => ?_) (fun zq => absurd zq (z))
      refine jx_T.step (pc' := 43) (st' := [_]) rfl rfl ?_
      refine jx_T.step (pc' := 45) (ls' := [_, _, _, _, _]) (st' := []) rfl rfl ?_
      exact t
  unfold tw_few
  by_cases zz : tw_p T 3 k = -1 ∧ ¬ tw_wh T k
  · rw [if_pos zz]
    refine ⟨W1, head ?_, q1⟩
    refine jx_T.step (pc' := 46) (st' := [_]) rfl rfl ?_
    refine jx_T.step (pc' := 47) (st' := [_, _]) rfl rfl ?_
    refine cl.bcn rfl (fun zq => absurd (zz.1) zq) (fun _ => ?_)
    refine jx_T.step (pc' := 52) (st' := [_]) rfl rfl ?_
    refine cl.brn rfl (fun zq => absurd ((rf_o_0 _).mpr zz.2) zq) (fun _ => ?_)
    refine jx_T.step (pc' := 56) (st' := [_]) rfl rfl ?_
    exact jx_T.ret rfl rfl
  · rw [if_neg zz]
    have kf : kh_f W1 (cw_I W1 15 3 0) := kh_f.I
    have n2 := n1.Q kf.Q
    have I2 := kf.ca I1
    obtain ⟨W3, c3, K3, f3⟩ := kc_heapStreams nx s n2 I2 (by omega) (kh_I.nil W1) (tw_p T 3 k) b _ _ rfl rfl
    have l3 : (tw_fl T k b).length ≤ T.2.1 := fh_len _ _ _ _ _ _
    have K3 : kh_I W3 (tw_fl T k b) := K3
    have I3 := f3.ca I2
    obtain ⟨W4, c4, K4, f4⟩ := kc_hadd (g := g) (nx := nx) (s := s) W3 _ K3 (by omega) (tw_fv T)
    obtain ⟨W5, K5, f5, t5⟩ : ∃ W5, kh_I W5 (tw_f1 T k b) ∧ kh_f W3 W5 ∧ ∀ {v : Option Value} {h2 : jx_H}, jx_T 124 93 [.ref 1, .int k, .int b, .int (tw_p T 3 k), .int (rf_o (tw_wh T k))] [] (hc W5 g nx s) v h2 → jx_T 124 70 [.ref 1, .int k, .int b, .int (tw_p T 3 k), .int (rf_o (tw_wh T k))] [] (hc W3 g nx s) v h2 := by
      by_cases z : tw_wh T k ∨ b = 0
      · refine ⟨W4, by rw [show tw_f1 T k b = fw_add (tw_fl T k b) (tw_fv T) from if_pos z]; exact K4, f4, fun {v h2} t => ?_⟩
        have r : jx_T 124 79 [.ref 1, .int k, .int b, .int (tw_p T 3 k), .int (rf_o (tw_wh T k))] [] (hc W3 g nx s) v h2 := by
          refine jx_T.step (pc' := 80) (st' := [_]) rfl rfl ?_
          refine cl.get 1 (by decide) rfl (cw_c1 _) rfl ?_
          refine jx_T.step (pc' := 84) (st' := [_, _]) rfl rfl ?_
          refine cl.get 1 (by decide) rfl (cw_c1 _) rfl ?_
          refine cl.get 3 (by decide) rfl (cw_c3 _) rfl ?_
          rw [I3.2.1]
          refine cl.v1V (hc_fix 15 (by decide) (cw_c15 _)) rfl (by decide) rfl ⟨Nat.le_of_ble_eq_true rfl, rfl⟩ (Nat.le_of_ble_eq_true rfl) (c4) ?_
          exact t
        refine jx_T.step (pc' := 72) (st' := [_]) rfl rfl ?_
        by_cases y : tw_wh T k
        · refine cl.brn rfl (fun _ => ?_) (fun zq => absurd zq (fun q => (rf_o_0 _).mp q y))
          exact r
        · refine cl.brn rfl (fun zq => absurd ((rf_o_0 _).mpr y) zq) (fun _ => ?_)
          refine jx_T.step (pc' := 76) (st' := [_]) rfl rfl ?_
          refine cl.brn rfl (fun zq => absurd (z.resolve_left y) zq) (fun _ => ?_)
          exact r
      · refine ⟨W3, by rw [show tw_f1 T k b = tw_fl T k b from if_neg z]; exact K3, kh_f.rf, fun {v h2} t => ?_⟩
        refine jx_T.step (pc' := 72) (st' := [_]) rfl rfl ?_
        refine cl.brn rfl (fun zq => absurd ((rf_o_0 _).mpr (fun q => z (Or.inl q))) zq) (fun _ => ?_)
        refine jx_T.step (pc' := 76) (st' := [_]) rfl rfl ?_
        refine cl.brn rfl (fun _ => ?_) (fun zq => absurd zq (fun q => z (Or.inr q)))
        exact t
    have I5 := f5.ca I3
    have l5 := tw_f1_len T k b
    have clc := kc_leastCold g nx s I5 (by omega)
    obtain ⟨W6, c6, K6, f6⟩ := kc_hadd (g := g) (nx := nx) (s := s) W5 _ K5 (by omega) (-(tw_fc T))
    obtain ⟨W7, K7, f7, t7⟩ : ∃ W7, kh_I W7 (tw_f2 T k b) ∧ kh_f W5 W7 ∧ ∀ {v : Option Value} {h2 : jx_H}, jx_T 124 117 [.ref 1, .int k, .int b, .int (tw_p T 3 k), .int (rf_o (tw_wh T k))] [] (hc W7 g nx s) v h2 → jx_T 124 93 [.ref 1, .int k, .int b, .int (tw_p T 3 k), .int (rf_o (tw_wh T k))] [] (hc W5 g nx s) v h2 := by
      by_cases z : tw_wh T k ∨ ¬ b = 0
      · refine ⟨W6, by rw [show tw_f2 T k b = fw_add (tw_f1 T k b) (-(tw_fc T)) from if_pos z]; exact K6, f6, fun {v h2} t => ?_⟩
        have r : jx_T 124 102 [.ref 1, .int k, .int b, .int (tw_p T 3 k), .int (rf_o (tw_wh T k))] [] (hc W5 g nx s) v h2 := by
          refine jx_T.step (pc' := 103) (st' := [_]) rfl rfl ?_
          refine cl.get 1 (by decide) rfl (cw_c1 _) rfl ?_
          refine jx_T.step (pc' := 107) (st' := [_, _]) rfl rfl ?_
          refine cl.get 1 (by decide) rfl (cw_c1 _) rfl ?_
          refine cl.v0I (hc_fix 3 (by decide) (cw_c3 _)) rfl (by decide) rfl ⟨Nat.le_of_ble_eq_true rfl, rfl⟩ (Nat.le_of_ble_eq_true rfl) (clc) ?_
          refine jx_T.step (pc' := 114) (st' := [_, _]) rfl rfl ?_
          refine cl.v1V (hc_fix 15 (by decide) (cw_c15 _)) rfl (by decide) rfl ⟨Nat.le_of_ble_eq_true rfl, rfl⟩ (Nat.le_of_ble_eq_true rfl) (c6) ?_
          exact t
        refine jx_T.step (pc' := 95) (st' := [_]) rfl rfl ?_
        by_cases y : tw_wh T k
        · refine cl.brn rfl (fun _ => ?_) (fun zq => absurd zq (fun q => (rf_o_0 _).mp q y))
          exact r
        · refine cl.brn rfl (fun zq => absurd ((rf_o_0 _).mpr y) zq) (fun _ => ?_)
          refine jx_T.step (pc' := 99) (st' := [_]) rfl rfl ?_
          refine cl.br rfl (jx_br_eq _ _) (fun zq => absurd zq (z.resolve_left y)) (fun _ => ?_)
          exact r
      · refine ⟨W5, by rw [show tw_f2 T k b = tw_f1 T k b from if_neg z]; exact K5, kh_f.rf, fun {v h2} t => ?_⟩
        refine jx_T.step (pc' := 95) (st' := [_]) rfl rfl ?_
        refine cl.brn rfl (fun zq => absurd ((rf_o_0 _).mpr (fun q => z (Or.inl q))) zq) (fun _ => ?_)
        refine jx_T.step (pc' := 99) (st' := [_]) rfl rfl ?_
        refine cl.br rfl (jx_br_eq _ _) (fun _ => ?_) (fun zq => absurd (Decidable.not_not.mp (fun q => z (Or.inr q))) zq)
        exact t
    have l7 := tw_f2_len T k b
    obtain ⟨W8, c8, f8⟩ := kc_mostHeaps (g := g) (nx := nx) (s := s) W7 _ K7 (by omega)
    refine ⟨W8, head ?_, q1.tr (kf.tr (f3.tr (f5.tr (f7.tr f8)))).Q⟩
    have r57 : jx_T 124 57 [.ref 1, .int k, .int b, .int (tw_p T 3 k), .int (rf_o (tw_wh T k))] [] (hc W1 g nx s) (some (.int (hf_ans (tw_f2 T k b)))) (hc W8 g nx s) := by
      refine jx_T.step (pc' := 58) (st' := [_]) rfl rfl ?_
      refine cl.get 1 (by decide) rfl (cw_c1 _) rfl ?_
      refine cl.v0V (hc_fix 15 (by decide) (cw_c15 _)) rfl (by decide) rfl ⟨Nat.le_of_ble_eq_true rfl, rfl⟩ (Nat.le_of_ble_eq_true rfl) (kc_hclear W1) ?_
      refine jx_T.step (pc' := 65) (st' := [_]) rfl rfl ?_
      refine jx_T.step (pc' := 66) (st' := [_, _]) rfl rfl ?_
      refine jx_T.step (pc' := 67) (st' := [_, _, _]) rfl rfl ?_
      refine cl.v2V (hc_fix 1 (by decide) (cw_c1 _)) rfl (by decide) rfl ⟨Nat.le_of_ble_eq_true rfl, rfl⟩ (Nat.le_of_ble_eq_true rfl) (c3) ?_
      refine t5 (t7 ?_)
      refine jx_T.step (pc' := 118) (st' := [_]) rfl rfl ?_
      refine cl.get 1 (by decide) rfl (cw_c1 _) rfl ?_
      refine cl.get 15 (by decide) rfl (cw_c15 _) rfl ?_
      rw [K7.1]
      refine jx_T.step (pc' := 125) (st' := [_, _]) rfl rfl ?_
      refine cl.get 1 (by decide) rfl (cw_c1 _) rfl ?_
      refine cl.v0I (hc_fix 15 (by decide) (cw_c15 _)) rfl (by decide) rfl ⟨Nat.le_of_ble_eq_true rfl, rfl⟩ (Nat.le_of_ble_eq_true rfl) (c8) ?_
      refine jx_T.step (pc' := 132) (st' := [_]) rfl rfl ?_
      exact jx_T.ret rfl rfl
    refine jx_T.step (pc' := 46) (st' := [_]) rfl rfl ?_
    refine jx_T.step (pc' := 47) (st' := [_, _]) rfl rfl ?_
    by_cases y : tw_p T 3 k = -1
    · refine cl.bcn rfl (fun zq => absurd (y) zq) (fun _ => ?_)
      refine jx_T.step (pc' := 52) (st' := [_]) rfl rfl ?_
      refine cl.brn rfl (fun _ => ?_) (fun zq => absurd zq (fun q => zz ⟨y, (rf_o_0 _).mp q⟩))
      exact r57
    · refine cl.bcn rfl (fun _ => ?_) (fun zq => absurd zq (y))
      exact r57
end
