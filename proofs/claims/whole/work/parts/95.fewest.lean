/-! the works: fewest -/
/-- what no question changes -/
def kq_f (W W2 : cw) : Prop := (∀ y, W2.2.2.1 1 y = W.2.2.1 1 y) ∧ W2.2.1 34 = W.2.1 34 ∧ W2.2.2.2.2.1 = W.2.2.2.2.1
theorem kq_f.rf {W : cw} : kq_f W W := ⟨fun _ => rfl, rfl, rfl⟩
theorem kq_f.tr {W W2 W3 : cw} (a : kq_f W W2) (b : kq_f W2 W3) : kq_f W W3 := ⟨fun y => (b.1 y).trans (a.1 y), b.2.1.trans a.2.1, b.2.2.trans a.2.2⟩
theorem ka_f.Q {W W2 : cw} (a : ka_f W W2) : kq_f W W2 := ⟨fun y => a.2.2.1 1 y (by omega), a.2.1 34 (by omega), by rw [a.2.2.2.2]⟩
theorem kh_f.Q {W W2 : cw} (a : kh_f W W2) : kq_f W W2 := ⟨fun y => a.2.2.1 1 y (by omega), a.2.1 34 (by decide) (by decide), by rw [a.2.2.2]⟩
theorem cl_now.Q {W W2 : cw} {g : Nat → Option jx_E} {x : Nat} {T : tv} (n : cl_now W g x T) (f : kq_f W W2) : cl_now W2 g x T := by
  obtain ⟨⟨B, D, h1, h2, h3, h4, h5⟩, r⟩ := n
  exact ⟨⟨B, D, h1, h2, (f.1 1).trans h3, (f.1 2).trans h4, by rw [f.2.2]; exact h5⟩, r⟩
theorem kh_f.ca {W W2 : cw} {L : List Int32} {a b : Nat → Int64} (f : kh_f W W2) (i : ca_I W L a b) : ca_I W2 L a b := by
  refine ⟨⟨(f.2.2.1 4 1 (by omega)).trans i.1.1, by rw [f.1 5 (by decide)]; exact i.1.2⟩, by rw [f.2.2.2]; exact i.2.1, fun k hk => ?_⟩
  rw [f.2.1 8 (by decide) (by decide), f.2.1 9 (by decide) (by decide)]
  exact i.2.2 k hk
/-- a stream's heat on a side -/
def fh_h (S : sv) (gap lv sa b : Int32) (on : Bool) : Int64 := if on = true then (if b = 0 then sv_hb S gap lv sa else (sv_am S).toInt64 - sv_hb S gap lv sa) else (sv_am S).toInt64
def fh_x (S : sv) (gap lv sa b : Int32) (on : Bool) : Int64 := if sv_hot S = 0 then -(fh_h S gap lv sa b on) else fh_h S gap lv sa b on
def fh_l (T : tv) (lv sa b : Int32) (on : Bool) : Nat → List Int64
  | 0 => []
  | i + 1 => if (T.2.2.1 i).1 = 3 ∨ (T.2.2.1 i).1 = 4 then fh_l T lv sa b on i else fw_add (fh_l T lv sa b on i) (fh_x (T.2.2.1 i) T.1 lv sa b on)
theorem fh_len (T : tv) (lv sa b : Int32) (on : Bool) : ∀ i, (fh_l T lv sa b on i).length ≤ i
  | 0 => Nat.le_refl _
  | i + 1 => by
    unfold fh_l
    have := fh_len T lv sa b on i
    have := fw_len (fh_l T lv sa b on i) (fh_x (T.2.2.1 i) T.1 lv sa b on)
    split <;> omega
section
variable {W : cw} {g : Nat → Option jx_E} {x : Nat} {T : tv} (nx s : Nat)
theorem kc_heapStreams (n : cl_now W g x T) {L : List Int32} {a c : Nat → Int64} (I : ca_I W L a c) (hL : L.length ≤ 110) (K : kh_I W []) (at_ b sa : Int32) (on : Bool) (hon : on = decide (0 ≤ at_.toInt ∧ at_.toInt < L.length)) (hsa : sa = if cf_su a c at_.toNatClampNeg + -(cf_mn a c L.length) = 0 then 0 else 1) : ∃ W2, jx_T 125 0 (jx_ent 125 [.ref 1, .int at_, .int b]) [] (hc W g nx s) none (hc W2 g nx s) ∧ kh_I W2 (fh_l T (L.getD at_.toNatClampNeg 0) sa b on T.2.1) ∧ kh_f W W2 := by
  have cn := kc_now nx s n
  have n0 := n
  obtain ⟨-, im, ok⟩ := n
  obtain ⟨s1, s2, s3, s4, f1, f2, f3, h1, h2, h3, -⟩ := im
  have hM := ok.1
  have loop : ∀ d i (W1 : cw) (u5 u6 u7 u8 u9 u10 : Value), i + d = T.2.1 → kh_f W W1 → kh_I W1 (fh_l T (L.getD at_.toNatClampNeg 0) sa b on i) → ∃ W2, jx_T 125 8 [.ref 1, .int at_, .int b, .ref x, .int (nI i), u5, u6, u7, u8, u9, u10] [] (hc W1 g nx s) none (hc W2 g nx s) ∧ kh_I W2 (fh_l T (L.getD at_.toNatClampNeg 0) sa b on T.2.1) ∧ kh_f W W2 := by
    intro d
    induction d with
    | zero =>
      intro i W1 u5 u6 u7 u8 u9 u10 hi kf ki
      obtain rfl : i = T.2.1 := by omega
      refine ⟨W1, ?_, ki, kf⟩
      refine jx_T.step (pc' := 10) (st' := [_]) rfl rfl ?_
      refine jx_T.step (pc' := 11) (st' := [_, _]) rfl rfl ?_
      refine cl.geti (h1).1 (h1).2 rfl rfl ?_
      refine cl.bc rfl (jx_br_ge _ _) (fun _ => ?_) (fun zq => absurd (Int32.le_refl _) zq)
      exact jx_T.ret rfl rfl
    | succ d ih =>
      intro i W1 u5 u6 u7 u8 u9 u10 hi kf ki
      have I1 := kf.ca I
      obtain ⟨e, e1, imb⟩ := h3 i (by omega)
      have cb := kc_isBought W1 nx s imb
      have ch := kc_heatAbove W1 nx s imb (ok.2 i (by omega)) T.1 (L.getD at_.toNatClampNeg 0) sa
      have hh := kc_has4 W1 g nx s L.length hL I1.1.1 at_
      obtain ⟨ad, af, q1, q2, q3⟩ := imb
      have es : fh_l T (L.getD at_.toNatClampNeg 0) sa b on (i + 1) = if (T.2.2.1 i).1 = 3 ∨ (T.2.2.1 i).1 = 4 then fh_l T (L.getD at_.toNatClampNeg 0) sa b on i else fw_add (fh_l T (L.getD at_.toNatClampNeg 0) sa b on i) (fh_x (T.2.2.1 i) T.1 (L.getD at_.toNatClampNeg 0) sa b on) := rfl
      by_cases zb : (T.2.2.1 i).1 = 3 ∨ (T.2.2.1 i).1 = 4
      · rw [if_pos zb] at es
        obtain ⟨W2, t, k2, k3⟩ := ih (i + 1) W1 (.ref e) u6 u7 u8 u9 u10 (by omega) kf (by rw [es]; exact ki)
        refine ⟨W2, ?_, k2, k3⟩
        refine jx_T.step (pc' := 10) (st' := [_]) rfl rfl ?_
        refine jx_T.step (pc' := 11) (st' := [_, _]) rfl rfl ?_
        refine cl.geti (h1).1 (h1).2 rfl rfl ?_
        refine cl.bc rfl (jx_br_ge _ _) (fun zq => absurd zq (nI_ge (by omega) (by omega))) (fun _ => ?_)
        refine jx_T.step (pc' := 18) (st' := [_]) rfl rfl ?_
        refine cl.geti (h1).1 (h1).2 rfl rfl ?_
        refine jx_T.step (pc' := 23) (st' := [_, _]) rfl rfl ?_
        refine cl.aaldi (h2).1 (h2).2 rfl (by decide) (rf_ix (by omega) (by decide)) ?_
        rw [nI_clamp (by omega), e1]
        refine jx_T.step (pc' := 26) (ls' := [_, _, _, _, _, _, _, _, _, _, _]) (st' := []) rfl rfl ?_
        refine jx_T.step (pc' := 28) (st' := [_]) rfl rfl ?_
        refine cl.v0I (hc_imm (q1).1 (q1).2) rfl (by decide) rfl ⟨Nat.le_of_ble_eq_true rfl, rfl⟩ (Nat.le_of_ble_eq_true rfl) (cb) ?_
        refine cl.brn rfl (fun _ => ?_) (fun zq => absurd zq (fun q => (rf_o_0 _).mp q zb))
        refine jx_T.step (pc' := 144) (ls' := [_, _, _, _, _, _, _, _, _, _, _]) (st' := []) rfl rfl ?_
        refine jx_T.step (pc' := 8) (st' := []) rfl rfl ?_
        rw [nI_1]
        exact t
      · rw [if_neg zb] at es
        have ln := fh_len T (L.getD at_.toNatClampNeg 0) sa b on i
        obtain ⟨W2, ca, ki2, kf2⟩ := kc_hadd (g := g) (nx := nx) (s := s) W1 _ ki (by omega) (fh_x (T.2.2.1 i) T.1 (L.getD at_.toNatClampNeg 0) sa b on)
        have rest : ∀ (x8 x9 x10 : Value), ∃ W4, jx_T 125 118 [.ref 1, .int at_, .int b, .ref x, .int (nI i), .ref e, .long (fh_h (T.2.2.1 i) T.1 (L.getD at_.toNatClampNeg 0) sa b on), .retAddr 0, x8, x9, x10] [] (hc W1 g nx s) none (hc W4 g nx s) ∧ kh_I W4 (fh_l T (L.getD at_.toNatClampNeg 0) sa b on T.2.1) ∧ kh_f W W4 := by
          intro x8 x9 x10
          obtain ⟨W4, t, k2, k3⟩ := ih (i + 1) W2 (.ref e) (.long (fh_h (T.2.2.1 i) T.1 (L.getD at_.toNatClampNeg 0) sa b on)) (.retAddr 0) x8 x9 x10 (by omega) (kf.tr kf2) (by rw [es]; exact ki2)
          refine ⟨W4, ?_, k2, k3⟩
          refine jx_T.step (pc' := 119) (st' := [_]) rfl rfl ?_
          refine cl.get 1 (by decide) rfl (cw_c1 _) rfl ?_
          refine jx_T.step (pc' := 124) (st' := [_, _]) rfl rfl ?_
          refine cl.geti (q1).1 (q1).2 rfl rfl ?_
          by_cases zh : sv_hot (T.2.2.1 i) = 0
          · rw [show fh_x (T.2.2.1 i) T.1 (L.getD at_.toNatClampNeg 0) sa b on = -(fh_h (T.2.2.1 i) T.1 (L.getD at_.toNatClampNeg 0) sa b on) from if_pos zh] at ca
            refine cl.br rfl (jx_br_eq _ _) (fun _ => ?_) (fun zq => absurd (zh) zq)
            refine jx_T.step (pc' := 137) (st' := [_, _]) rfl rfl ?_
            refine jx_T.step (pc' := 138) (st' := [_, _]) rfl rfl ?_
            refine cl.v1V (hc_fix 15 (by decide) (cw_c15 _)) rfl (by decide) rfl ⟨Nat.le_of_ble_eq_true rfl, rfl⟩ (Nat.le_of_ble_eq_true rfl) (ca) ?_
            refine jx_T.step (pc' := 144) (ls' := [_, _, _, _, _, _, _, _, _, _, _]) (st' := []) rfl rfl ?_
            refine jx_T.step (pc' := 8) (st' := []) rfl rfl ?_
            rw [nI_1]
            exact t
          · rw [show fh_x (T.2.2.1 i) T.1 (L.getD at_.toNatClampNeg 0) sa b on = fh_h (T.2.2.1 i) T.1 (L.getD at_.toNatClampNeg 0) sa b on from if_neg zh] at ca
            refine cl.br rfl (jx_br_eq _ _) (fun zq => absurd zq (zh)) (fun _ => ?_)
            refine jx_T.step (pc' := 132) (st' := [_, _]) rfl rfl ?_
            refine jx_T.step (pc' := 138) (st' := [_, _]) rfl rfl ?_
            refine cl.v1V (hc_fix 15 (by decide) (cw_c15 _)) rfl (by decide) rfl ⟨Nat.le_of_ble_eq_true rfl, rfl⟩ (Nat.le_of_ble_eq_true rfl) (ca) ?_
            refine jx_T.step (pc' := 144) (ls' := [_, _, _, _, _, _, _, _, _, _, _]) (st' := []) rfl rfl ?_
            refine jx_T.step (pc' := 8) (st' := []) rfl rfl ?_
            rw [nI_1]
            exact t
        by_cases zo : 0 ≤ at_.toInt ∧ at_.toInt < L.length
        · have eo : on = true := by rw [hon]; exact decide_eq_true zo
          obtain ⟨j, hj, rfl⟩ := rf_nI (x := at_) (n := L.length) ⟨zo.1, by omega⟩ (by omega)
          rw [nI_toInt (by omega)] at zo
          have hj2 : j < L.length := by omega
          rw [nI_clamp (by omega)] at *
          obtain ⟨W4, t, k2, k3⟩ := rest (.int sa) (.long (sv_hb (T.2.2.1 i) T.1 (L.getD j 0) sa)) (.retAddr 0)
          refine ⟨W4, ?_, k2, k3⟩
          have tail : jx_T 125 75 [.ref 1, .int (nI j), .int b, .ref x, .int (nI i), .ref e, .long ((sv_am (T.2.2.1 i)).toInt64), .retAddr 0, u8, u9, u10] [.int sa] (hc W1 g nx s) none (hc W4 g nx s) := by
            refine jx_T.step (pc' := 77) (ls' := [_, _, _, _, _, _, _, _, _, _, _]) (st' := []) rfl rfl ?_
            refine jx_T.step (pc' := 79) (st' := [_]) rfl rfl ?_
            refine jx_T.step (pc' := 80) (st' := [_, _]) rfl rfl ?_
            refine cl.geti (h1).1 (h1).2 rfl rfl ?_
            refine jx_T.step (pc' := 84) (st' := [_, _, _]) rfl rfl ?_
            refine cl.get 1 (by decide) rfl (cw_c1 _) rfl ?_
            refine cl.get 3 (by decide) rfl (cw_c3 _) rfl ?_
            refine cl.get 4 (by decide) rfl (cw_c4 _) rfl ?_
            refine jx_T.step (pc' := 94) (st' := [_, _, _, _]) rfl rfl ?_
            refine cl.iald 5 (by decide) rfl (cw_c5 _) (rf_ix (by omega) (by decide)) ?_
            rw [nI_clamp (by omega), I1.1.get j hj2]
            refine jx_T.step (pc' := 97) (st' := [_, _, _, _]) rfl rfl ?_
            refine cl.v3I (hc_imm (q1).1 (q1).2) rfl (by decide) rfl ⟨Nat.le_of_ble_eq_true rfl, rfl⟩ (Nat.le_of_ble_eq_true rfl) (ch) ?_
            refine jx_T.step (pc' := 102) (ls' := [_, _, _, _, _, _, _, _, _, _, _]) (st' := []) rfl rfl ?_
            refine jx_T.step (pc' := 103) (st' := [_]) rfl rfl ?_
            by_cases zz : b = 0
            · rw [show fh_h (T.2.2.1 i) T.1 (L.getD j 0) sa b on = sv_hb (T.2.2.1 i) T.1 (L.getD j 0) sa by unfold fh_h; rw [if_pos eo, if_pos zz]] at t
              refine cl.br rfl (jx_br_eq _ _) (fun _ => ?_) (fun zq => absurd (zz) zq)
              refine jx_T.step (pc' := 116) (st' := [_]) rfl rfl ?_
              refine jx_T.step (pc' := 118) (ls' := [_, _, _, _, _, _, _, _, _, _, _]) (st' := []) rfl rfl ?_
              exact t
            · rw [show fh_h (T.2.2.1 i) T.1 (L.getD j 0) sa b on = (sv_am (T.2.2.1 i)).toInt64 - sv_hb (T.2.2.1 i) T.1 (L.getD j 0) sa by unfold fh_h; rw [if_pos eo, if_neg zz]] at t
              refine cl.br rfl (jx_br_eq _ _) (fun zq => absurd zq (zz)) (fun _ => ?_)
              refine jx_T.step (pc' := 108) (st' := [_]) rfl rfl ?_
              refine jx_T.step (pc' := 110) (st' := [_, _]) rfl rfl ?_
              refine jx_T.step (pc' := 111) (st' := [_]) rfl rfl ?_
              refine jx_T.step (pc' := 116) (st' := [_]) rfl rfl ?_
              refine jx_T.step (pc' := 118) (ls' := [_, _, _, _, _, _, _, _, _, _, _]) (st' := []) rfl rfl ?_
              exact t
          refine jx_T.step (pc' := 10) (st' := [_]) rfl rfl ?_
          refine jx_T.step (pc' := 11) (st' := [_, _]) rfl rfl ?_
          refine cl.geti (h1).1 (h1).2 rfl rfl ?_
          refine cl.bc rfl (jx_br_ge _ _) (fun zq => absurd zq (nI_ge (by omega) (by omega))) (fun _ => ?_)
          refine jx_T.step (pc' := 18) (st' := [_]) rfl rfl ?_
          refine cl.geti (h1).1 (h1).2 rfl rfl ?_
          refine jx_T.step (pc' := 23) (st' := [_, _]) rfl rfl ?_
          refine cl.aaldi (h2).1 (h2).2 rfl (by decide) (rf_ix (by omega) (by decide)) ?_
          rw [nI_clamp (by omega), e1]
          refine jx_T.step (pc' := 26) (ls' := [_, _, _, _, _, _, _, _, _, _, _]) (st' := []) rfl rfl ?_
          refine jx_T.step (pc' := 28) (st' := [_]) rfl rfl ?_
          refine cl.v0I (hc_imm (q1).1 (q1).2) rfl (by decide) rfl ⟨Nat.le_of_ble_eq_true rfl, rfl⟩ (Nat.le_of_ble_eq_true rfl) (cb) ?_
          refine cl.brn rfl (fun zq => absurd ((rf_o_0 _).mpr zb) zq) (fun _ => ?_)
          refine jx_T.step (pc' := 36) (st' := [_]) rfl rfl ?_
          refine cl.geti (q1).1 (q1).2 rfl rfl ?_
          refine jx_T.step (pc' := 40) (st' := [_]) rfl rfl ?_
          refine jx_T.step (pc' := 42) (ls' := [_, _, _, _, _, _, _, _, _, _, _]) (st' := []) rfl rfl ?_
          refine jx_T.step (pc' := 43) (st' := [_]) rfl rfl ?_
          refine cl.get 1 (by decide) rfl (cw_c1 _) rfl ?_
          refine cl.get 3 (by decide) rfl (cw_c3 _) rfl ?_
          refine jx_T.step (pc' := 50) (st' := [_, _]) rfl rfl ?_
          refine cl.v1I (hc_fix 4 (by decide) (cw_c4 _)) rfl (by decide) rfl ⟨Nat.le_of_ble_eq_true rfl, rfl⟩ (Nat.le_of_ble_eq_true rfl) (hh) ?_
          refine cl.br rfl (jx_br_eq _ _) (fun zq => absurd zq (fun q => (rf_o_0 _).mp q (by rw [nI_toInt (by omega)]; omega))) (fun _ => ?_)
          refine jx_T.step (pc' := 57) (st' := [_]) rfl rfl ?_
          refine cl.get 1 (by decide) rfl (cw_c1 _) rfl ?_
          refine cl.get 3 (by decide) rfl (cw_c3 _) rfl ?_
          refine jx_T.step (pc' := 64) (st' := [_, _]) rfl rfl ?_
          refine cl.lald 8 (by decide) rfl (cw_c8 _) (rf_ix (by omega) (by decide)) ?_
          refine jx_T.step (pc' := 66) (st' := [_, _]) rfl rfl ?_
          refine jx_T.step (pc' := 67) (st' := [_]) rfl rfl ?_
          rw [nI_clamp (by omega), (I1.2.2 j hj2).1]
          by_cases zz : cf_su a c j + -(cf_mn a c L.length) = 0
          · rw [if_pos zz] at hsa
            subst hsa
            refine cl.br rfl (jx_br_eq _ _) (fun _ => ?_) (fun zq => absurd ((lg_cmp_eq0 _ _).mpr zz) zq)
            refine jx_T.step (pc' := 75) (st' := [_]) rfl rfl ?_
            exact tail
          · rw [if_neg zz] at hsa
            subst hsa
            refine cl.br rfl (jx_br_eq _ _) (fun zq => absurd zq (fun q => zz ((lg_cmp_eq0 _ _).mp q))) (fun _ => ?_)
            refine jx_T.step (pc' := 71) (st' := [_]) rfl rfl ?_
            refine jx_T.step (pc' := 75) (st' := [_]) rfl rfl ?_
            exact tail
        · have eo : ¬ on = true := by rw [hon, decide_eq_false zo]; decide
          obtain ⟨W4, t, k2, k3⟩ := rest u8 u9 u10
          rw [show fh_h (T.2.2.1 i) T.1 (L.getD at_.toNatClampNeg 0) sa b on = (sv_am (T.2.2.1 i)).toInt64 from if_neg eo] at t
          refine ⟨W4, ?_, k2, k3⟩
          refine jx_T.step (pc' := 10) (st' := [_]) rfl rfl ?_
          refine jx_T.step (pc' := 11) (st' := [_, _]) rfl rfl ?_
          refine cl.geti (h1).1 (h1).2 rfl rfl ?_
          refine cl.bc rfl (jx_br_ge _ _) (fun zq => absurd zq (nI_ge (by omega) (by omega))) (fun _ => ?_)
          refine jx_T.step (pc' := 18) (st' := [_]) rfl rfl ?_
          refine cl.geti (h1).1 (h1).2 rfl rfl ?_
          refine jx_T.step (pc' := 23) (st' := [_, _]) rfl rfl ?_
          refine cl.aaldi (h2).1 (h2).2 rfl (by decide) (rf_ix (by omega) (by decide)) ?_
          rw [nI_clamp (by omega), e1]
          refine jx_T.step (pc' := 26) (ls' := [_, _, _, _, _, _, _, _, _, _, _]) (st' := []) rfl rfl ?_
          refine jx_T.step (pc' := 28) (st' := [_]) rfl rfl ?_
          refine cl.v0I (hc_imm (q1).1 (q1).2) rfl (by decide) rfl ⟨Nat.le_of_ble_eq_true rfl, rfl⟩ (Nat.le_of_ble_eq_true rfl) (cb) ?_
          refine cl.brn rfl (fun zq => absurd ((rf_o_0 _).mpr zb) zq) (fun _ => ?_)
          refine jx_T.step (pc' := 36) (st' := [_]) rfl rfl ?_
          refine cl.geti (q1).1 (q1).2 rfl rfl ?_
          refine jx_T.step (pc' := 40) (st' := [_]) rfl rfl ?_
          refine jx_T.step (pc' := 42) (ls' := [_, _, _, _, _, _, _, _, _, _, _]) (st' := []) rfl rfl ?_
          refine jx_T.step (pc' := 43) (st' := [_]) rfl rfl ?_
          refine cl.get 1 (by decide) rfl (cw_c1 _) rfl ?_
          refine cl.get 3 (by decide) rfl (cw_c3 _) rfl ?_
          refine jx_T.step (pc' := 50) (st' := [_, _]) rfl rfl ?_
          refine cl.v1I (hc_fix 4 (by decide) (cw_c4 _)) rfl (by decide) rfl ⟨Nat.le_of_ble_eq_true rfl, rfl⟩ (Nat.le_of_ble_eq_true rfl) (hh) ?_
          refine cl.br rfl (jx_br_eq _ _) (fun _ => ?_) (fun zq => absurd ((rf_o_0 _).mpr zo) zq)
          exact t
  obtain ⟨W2, t, k2, k3⟩ := loop T.2.1 0 W (.retAddr 0) (.retAddr 0) (.retAddr 0) (.retAddr 0) (.retAddr 0) (.retAddr 0) (by omega) kh_f.rf K
  refine ⟨W2, ?_, k2, k3⟩
  show jx_T 125 0 [.ref 1, .int at_, .int b, .retAddr 0, .retAddr 0, .retAddr 0, .retAddr 0, .retAddr 0, .retAddr 0, .retAddr 0, .retAddr 0] [] _ _ _
  refine jx_T.step (pc' := 1) (st' := [_]) rfl rfl ?_
  refine cl.v0I (hc_fix 1 (by decide) (cw_c1 _)) rfl (by decide) rfl ⟨Nat.le_of_ble_eq_true rfl, rfl⟩ (Nat.le_of_ble_eq_true rfl) (cn) ?_
  refine jx_T.step (pc' := 5) (ls' := [_, _, _, _, _, _, _, _, _, _, _]) (st' := []) rfl rfl ?_
  refine jx_T.step (pc' := 6) (st' := [_]) rfl rfl ?_
  refine jx_T.step (pc' := 8) (ls' := [_, _, _, _, _, _, _, _, _, _, _]) (st' := []) rfl rfl ?_
  exact t
end
