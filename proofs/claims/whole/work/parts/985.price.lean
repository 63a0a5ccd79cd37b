/-! Pricing: takers, a place, all places -/
abbrev pz_may (T : tv) (j i : Nat) : Prop := ¬ sv_hot (T.2.2.1 j) = 0 ∧ ¬ (sv_bt (T.2.2.1 i) ∧ sv_bt (T.2.2.1 j)) ∧ ¬ ((T.2.2.2.2.2 j >>> (nI i &&& 31)) &&& 1 = 1)
def pz_x (T : tv) (w : Int32) (i : Nat) (lt : Nat → Option Nat) (n : Nat) : Nat → List gA
  | 0 => []
  | j + 1 => if pz_may T j i then pz_x T w i lt n j ++ pz_o (lt j) n w else pz_x T w i lt n j
def pz_hn (T : tv) : Nat → Nat
  | 0 => 0
  | i + 1 => if sv_hot (T.2.2.1 i) = 0 then pz_hn T i else pz_hn T i + 1
theorem pz_o_len (o : Option Nat) (b : Nat) (w : Int32) : (pz_o o b w).length ≤ 1 := by
  cases o
  · exact Nat.zero_le 1
  · exact Nat.le_refl 1
theorem pz_x_len (T : tv) (w : Int32) (i : Nat) (lt : Nat → Option Nat) (n : Nat) : ∀ j, (pz_x T w i lt n j).length ≤ pz_hn T j
  | 0 => Nat.le_refl 0
  | j + 1 => by
    have ih := pz_x_len T w i lt n j
    have h1 := pz_o_len (lt j) n w
    unfold pz_x pz_hn
    by_cases z : pz_may T j i
    · rw [if_pos z, if_neg z.1, List.length_append]
      omega
    · rw [if_neg z]
      by_cases y : sv_hot (T.2.2.1 j) = 0
      · rw [if_pos y]
        exact ih
      · rw [if_neg y]
        omega
theorem pz_hn_mono (T : tv) (j : Nat) : ∀ d, pz_hn T j ≤ pz_hn T (j + d)
  | 0 => Nat.le_refl _
  | d + 1 => by
    have ih := pz_hn_mono T j d
    show _ ≤ pz_hn T (j + d + 1)
    rw [pz_hn]
    split <;> omega
def pz_tk (T : tv) (w : Int32) (i : Nat) (h : Int32) (Z : pz) : pz := if h = 0 then Z else (Z.1 + 1, Z.2.1 ++ [(Z.1, if sv_bt (T.2.2.1 i) then 3 else 1, h.toInt64, if sv_bt (T.2.2.1 i) then sv_am (T.2.2.1 i) else 0)] ++ pz_x T w i Z.2.2 Z.1 T.2.1, Z.2.2)
section
variable {g : Nat → Option jx_E} {nx s x : Nat} {T : tv} {W : cw} {L : List Int32} {w : Int32} {Z : pz}
theorem kc_addTaker (im : im_sta g x T) (okT : tv_ok T) (e : pz_e W L w) (K : pz_W T.2.1 W Z) (ok : pz_ok Z) (i : Nat) (hi : i < T.2.1) (h : Int32) (hN : h = 0 ∨ (Z.1 < 1324 ∧ Z.2.1.length + 1 + pz_hn T T.2.1 ≤ 5943)) : ∃ W2, jx_T 62 0 (jx_ent 62 [.ref 19, .ref x, .int (nI i), .int h]) [] (hc W g nx s) none (hc W2 g nx s) ∧ pz_W T.2.1 W2 (pz_tk T w i h Z) ∧ pz_ok (pz_tk T w i h Z) ∧ kz_f W W2 := by
  have hM := okT.1
  have cF := fun (W : cw) (j : Nat) (hj : j < 12) => kc_isForb (W := W) nx s im j hj (nI i)
  obtain ⟨s1, s2, s3, s4, f1, f2, f3, h1, h2, h3, -⟩ := im
  obtain ⟨b, e1, imb⟩ := h3 i hi
  have cb := fun W => kc_isBought W nx s imb
  obtain ⟨ad, af, q1, q2, q3⟩ := imb
  unfold pz_tk
  by_cases z : h = 0
  · rw [if_pos z]
    refine ⟨W, ?_, K, ok, kz_f.rf⟩
    show jx_T 62 0 [.ref 19, .ref x, .int (nI i), .int h, .retAddr 0, .retAddr 0, .retAddr 0, .retAddr 0] [] _ _ _
    refine jx_T.step (pc' := 1) (st' := [_]) rfl rfl ?_
    refine cl.brn rfl (fun q => absurd z q) (fun _ => ?_)
    exact jx_T.ret rfl rfl
  · rw [if_neg z]
    have hN := hN.resolve_left z
    obtain ⟨W1, c1, K1, ok1, g1⟩ := kc_nn (g := g) (nx := nx) (s := s) K ok hN.1
    have hz4 := ok.1
    have loop : ∀ (B : List gA), B.length = Z.2.1.length + 1 → ∀ d j (W2 : cw) (u7 : Value), j + d = T.2.1 → pz_W T.2.1 W2 (Z.1 + 1, B ++ pz_x T w i Z.2.2 Z.1 j, Z.2.2) → pz_ok (Z.1 + 1, B ++ pz_x T w i Z.2.2 Z.1 j, Z.2.2) → kz_f W W2 → ∃ W3, (pz_W T.2.1 W3 (Z.1 + 1, B ++ pz_x T w i Z.2.2 Z.1 T.2.1, Z.2.2) ∧ pz_ok (Z.1 + 1, B ++ pz_x T w i Z.2.2 Z.1 T.2.1, Z.2.2) ∧ kz_f W W3) ∧ jx_T 62 64 [.ref 19, .ref x, .int (nI i), .int h, .ref b, .int (nI Z.1), .int (nI j), u7] [] (hc W2 g nx s) none (hc W3 g nx s) := by
      intro B hB d
      induction d with
      | zero =>
        intro j W2 u7 hj K2 ok2 fr
        obtain rfl : j = T.2.1 := by omega
        refine ⟨W2, ⟨K2, ok2, fr⟩, ?_⟩
        refine jx_T.step (pc' := 66) (st' := [_]) rfl rfl ?_
        refine jx_T.step (pc' := 67) (st' := [_, _]) rfl rfl ?_
        refine cl.geti (h1).1 (h1).2 rfl rfl ?_
        refine cl.bc rfl (jx_br_ge _ _) (fun _ => ?_) (fun zq => absurd (Int32.le_refl _) zq)
        exact jx_T.ret rfl rfl
      | succ d ih =>
        intro j W2 u7 hj K2 ok2 fr
        obtain ⟨bj, ej, imj⟩ := h3 j (by omega)
        have cj := kc_isBought W2 nx s imj
        obtain ⟨adj, afj, p1, p2, p3⟩ := imj
        have e2 := e.k fr
        have head : ∀ {hh : jx_H}, jx_T 62 101 [.ref 19, .ref x, .int (nI i), .int h, .ref b, .int (nI Z.1), .int (nI j), .int (rf_o (sv_bt (T.2.2.1 i) ∧ sv_bt (T.2.2.1 j)))] [] (hc W2 g nx s) none hh → jx_T 62 64 [.ref 19, .ref x, .int (nI i), .int h, .ref b, .int (nI Z.1), .int (nI j), u7] [] (hc W2 g nx s) none hh := by
          intro hh t
          refine jx_T.step (pc' := 66) (st' := [_]) rfl rfl ?_
          refine jx_T.step (pc' := 67) (st' := [_, _]) rfl rfl ?_
          refine cl.geti (h1).1 (h1).2 rfl rfl ?_
          refine cl.bc rfl (jx_br_ge _ _) (fun zq => absurd zq (nI_ge (by omega) (by omega))) (fun _ => ?_)
          refine jx_T.step (pc' := 75) (st' := [_]) rfl rfl ?_
          refine cl.v0I (hc_imm (q1).1 (q1).2) rfl (by decide) rfl ⟨Nat.le_of_ble_eq_true rfl, rfl⟩ (Nat.le_of_ble_eq_true rfl) (cb W2) ?_
          by_cases y : sv_bt (T.2.2.1 i)
          · refine cl.br rfl (jx_br_eq _ _) (fun zq => absurd zq (fun q => (rf_o_0 _).mp q y)) (fun _ => ?_)
            refine jx_T.step (pc' := 82) (st' := [_]) rfl rfl ?_
            refine cl.geti (h1).1 (h1).2 rfl rfl ?_
            refine jx_T.step (pc' := 87) (st' := [_, _]) rfl rfl ?_
            refine cl.aaldi (h2).1 (h2).2 rfl (by decide) (rf_ix (by omega) (by decide)) ?_
            rw [nI_clamp (by omega), ej]
            refine cl.v0I (hc_imm (p1).1 (p1).2) rfl (by decide) rfl ⟨Nat.le_of_ble_eq_true rfl, rfl⟩ (Nat.le_of_ble_eq_true rfl) (cj) ?_
            by_cases y2 : sv_bt (T.2.2.1 j)
            · refine cl.br rfl (jx_br_eq _ _) (fun zq => absurd zq (fun q => (rf_o_0 _).mp q y2)) (fun _ => ?_)
              refine jx_T.step (pc' := 95) (st' := [_]) rfl rfl ?_
              refine jx_T.step (pc' := 99) (st' := [_]) rfl rfl ?_
              refine jx_T.step (pc' := 101) (ls' := [_, _, _, _, _, _, _, _]) (st' := []) rfl rfl ?_
              rw [rf_ot ⟨y, y2⟩] at t
              exact t
            · refine cl.br rfl (jx_br_eq _ _) (fun _ => ?_) (fun zq => absurd ((rf_o_0 _).mpr y2) zq)
              refine jx_T.step (pc' := 99) (st' := [_]) rfl rfl ?_
              refine jx_T.step (pc' := 101) (ls' := [_, _, _, _, _, _, _, _]) (st' := []) rfl rfl ?_
              rw [rf_of (fun q => y2 q.2)] at t
              exact t
          · refine cl.br rfl (jx_br_eq _ _) (fun _ => ?_) (fun zq => absurd ((rf_o_0 _).mpr y) zq)
            refine jx_T.step (pc' := 99) (st' := [_]) rfl rfl ?_
            refine jx_T.step (pc' := 101) (ls' := [_, _, _, _, _, _, _, _]) (st' := []) rfl rfl ?_
            rw [rf_of (fun q => y q.1)] at t
            exact t
        by_cases m : pz_may T j i
        · have lx := pz_x_len T w i Z.2.2 Z.1 j
          have lm := pz_hn_mono T (j + 1) d
          rw [show j + 1 + d = T.2.1 by omega, pz_hn, if_neg m.1] at lm
          obtain ⟨W3, c3, K3, ok3, g3⟩ := kc_lko (g := g) (nx := nx) (s := s) K2 ok2 (by show Z.1 + 1 ≤ 1324; omega) (by show (B ++ pz_x T w i Z.2.2 Z.1 j).length < 5943; rw [List.length_append]; omega) (Z.2.2 j) Z.1 (fun y hy => Nat.lt_succ_of_lt (ok.2.2 j y hy)) (by show Z.1 < Z.1 + 1; omega) w
          have ex : pz_x T w i Z.2.2 Z.1 (j + 1) = pz_x T w i Z.2.2 Z.1 j ++ pz_o (Z.2.2 j) Z.1 w := by rw [pz_x, if_pos m]
          have K3 : pz_W T.2.1 W3 (Z.1 + 1, B ++ pz_x T w i Z.2.2 Z.1 j ++ pz_o (Z.2.2 j) Z.1 w, Z.2.2) := K3
          have ok3 : pz_ok (Z.1 + 1, B ++ pz_x T w i Z.2.2 Z.1 j ++ pz_o (Z.2.2 j) Z.1 w, Z.2.2) := ok3
          rw [List.append_assoc, ← ex] at K3 ok3
          obtain ⟨W4, r4, t4⟩ := ih (j + 1) W3 (.int (rf_o (sv_bt (T.2.2.1 i) ∧ sv_bt (T.2.2.1 j)))) (by omega) K3 ok3 (fr.tr g3.Z)
          refine ⟨W4, r4, head ?_⟩
          have el := K2.2.2 j (by omega)
          refine jx_T.step (pc' := 102) (st' := [_]) rfl rfl ?_
          refine cl.geti (h1).1 (h1).2 rfl rfl ?_
          refine jx_T.step (pc' := 107) (st' := [_, _]) rfl rfl ?_
          refine cl.aaldi (h2).1 (h2).2 rfl (by decide) (rf_ix (by omega) (by decide)) ?_
          rw [nI_clamp (by omega), ej]
          refine cl.geti (p1).1 (p1).2 rfl rfl ?_
          refine cl.br rfl (jx_br_eq _ _) (fun zq => absurd zq (m.1)) (fun _ => ?_)
          refine jx_T.step (pc' := 116) (st' := [_]) rfl rfl ?_
          refine cl.brn rfl (fun q => absurd ((rf_o_0 _).mpr m.2.1) q) (fun _ => ?_)
          refine jx_T.step (pc' := 120) (st' := [_]) rfl rfl ?_
          refine jx_T.step (pc' := 122) (st' := [_, _]) rfl rfl ?_
          refine jx_T.step (pc' := 123) (st' := [_, _, _]) rfl rfl ?_
          refine cl.v2I (hc_imm (h1).1 (h1).2) rfl (by decide) rfl ⟨Nat.le_of_ble_eq_true rfl, rfl⟩ (Nat.le_of_ble_eq_true rfl) (cF W2 j (by omega)) ?_
          refine cl.brn rfl (fun q => absurd ((rf_o_0 _).mpr m.2.2) q) (fun _ => ?_)
          refine jx_T.step (pc' := 130) (st' := [_]) rfl rfl ?_
          refine cl.get 19 (by decide) rfl (cw_c19 _) rfl ?_
          refine jx_T.step (pc' := 134) (st' := [_, _]) rfl rfl ?_
          refine cl.get 19 (by decide) rfl (cw_c19 _) rfl ?_
          refine jx_T.step (pc' := 139) (st' := [_, _, _]) rfl rfl ?_
          refine cl.iald 33 (by decide) rfl (cw_c33 _) (rf_ix (by omega) (by decide)) ?_
          rw [nI_clamp (by omega), el]
          refine jx_T.step (pc' := 142) (st' := [_, _, _]) rfl rfl ?_
          refine jx_T.step (pc' := 143) (st' := [_, _, _, _]) rfl rfl ?_
          refine cl.get 19 (by decide) rfl (cw_c19 _) rfl ?_
          refine jx_T.step (pc' := 147) (st' := [_, _, _, _, _]) rfl rfl ?_
          refine cl.get 19 (by decide) rfl (cw_c19 _) rfl ?_
          refine jx_T.step (pc' := 151) (st' := [_, _, _, _]) rfl rfl ?_
          rw [e2.2.2]
          refine jx_T.step (pc' := 152) (st' := [_, _, _, _, _]) rfl rfl ?_
          refine cl.v4V (hc_fix 22 (by decide) (cw_c22 _)) rfl (by decide) rfl ⟨Nat.le_of_ble_eq_true rfl, rfl⟩ (Nat.le_of_ble_eq_true rfl) (c3) ?_
          refine jx_T.step (pc' := 158) (ls' := [_, _, _, _, _, _, _, _]) (st' := []) rfl rfl ?_
          refine jx_T.step (pc' := 64) (st' := []) rfl rfl ?_
          rw [nI_1]
          exact t4
        · have ex : pz_x T w i Z.2.2 Z.1 (j + 1) = pz_x T w i Z.2.2 Z.1 j := by rw [pz_x, if_neg m]
          obtain ⟨W4, r4, t4⟩ := ih (j + 1) W2 (.int (rf_o (sv_bt (T.2.2.1 i) ∧ sv_bt (T.2.2.1 j)))) (by omega) (by rw [ex]; exact K2) (by rw [ex]; exact ok2) fr
          refine ⟨W4, r4, head ?_⟩
          have t155 : jx_T 62 155 [.ref 19, .ref x, .int (nI i), .int h, .ref b, .int (nI Z.1), .int (nI j), .int (rf_o (sv_bt (T.2.2.1 i) ∧ sv_bt (T.2.2.1 j)))] [] (hc W2 g nx s) none (hc W4 g nx s) := by
            refine jx_T.step (pc' := 158) (ls' := [_, _, _, _, _, _, _, _]) (st' := []) rfl rfl ?_
            refine jx_T.step (pc' := 64) (st' := []) rfl rfl ?_
            rw [nI_1]
            exact t4
          refine jx_T.step (pc' := 102) (st' := [_]) rfl rfl ?_
          refine cl.geti (h1).1 (h1).2 rfl rfl ?_
          refine jx_T.step (pc' := 107) (st' := [_, _]) rfl rfl ?_
          refine cl.aaldi (h2).1 (h2).2 rfl (by decide) (rf_ix (by omega) (by decide)) ?_
          rw [nI_clamp (by omega), ej]
          refine cl.geti (p1).1 (p1).2 rfl rfl ?_
          by_cases m1 : sv_hot (T.2.2.1 j) = 0
          · refine cl.br rfl (jx_br_eq _ _) (fun _ => ?_) (fun zq => absurd (m1) zq)
            exact t155
          · refine cl.br rfl (jx_br_eq _ _) (fun zq => absurd zq (m1)) (fun _ => ?_)
            refine jx_T.step (pc' := 116) (st' := [_]) rfl rfl ?_
            refine cl.brn rfl (fun _ => t155) (fun q => ?_)
            have m2 := (rf_o_0 _).mp q
            refine jx_T.step (pc' := 120) (st' := [_]) rfl rfl ?_
            refine jx_T.step (pc' := 122) (st' := [_, _]) rfl rfl ?_
            refine jx_T.step (pc' := 123) (st' := [_, _, _]) rfl rfl ?_
            refine cl.v2I (hc_imm (h1).1 (h1).2) rfl (by decide) rfl ⟨Nat.le_of_ble_eq_true rfl, rfl⟩ (Nat.le_of_ble_eq_true rfl) (cF W2 j (by omega)) ?_
            refine cl.brn rfl (fun _ => t155) (fun q => ?_)
            exact absurd ⟨m1, m2, (rf_o_0 _).mp q⟩ m
    have key : ∀ (a : Nat) (am : Int32), a < 4 → ∃ W2, jx_T 36 0 (jx_ent 36 [.ref 22, .int (nI Z.1), .int (nI a), .int h, .int am]) [] (hc W1 g nx s) none (hc W2 g nx s) ∧ ∃ W3, jx_T 62 61 [.ref 19, .ref x, .int (nI i), .int h, .ref b, .int (nI Z.1), .retAddr 0, .retAddr 0] [] (hc W2 g nx s) none (hc W3 g nx s) ∧ pz_W T.2.1 W3 (Z.1 + 1, Z.2.1 ++ [(Z.1, a, h.toInt64, am)] ++ pz_x T w i Z.2.2 Z.1 T.2.1, Z.2.2) ∧ pz_ok (Z.1 + 1, Z.2.1 ++ [(Z.1, a, h.toInt64, am)] ++ pz_x T w i Z.2.2 Z.1 T.2.1, Z.2.2) ∧ kz_f W W3 := by
      intro a am ha
      obtain ⟨W2, c2, K2, ok2, g2⟩ := kc_lk (g := g) (nx := nx) (s := s) K1 ok1 (by show Z.1 + 1 ≤ 1324; omega) (by show Z.2.1.length < 5943; omega) Z.1 a (by show Z.1 < Z.1 + 1; omega) (by show a < Z.1 + 1; omega) h am
      refine ⟨W2, c2, ?_⟩
      obtain ⟨W3, r3, t3⟩ := loop (Z.2.1 ++ [(Z.1, a, h.toInt64, am)]) (by rw [List.length_append]; rfl) T.2.1 0 W2 (.retAddr 0) (by omega) (by show pz_W T.2.1 W2 (Z.1 + 1, Z.2.1 ++ [(Z.1, a, h.toInt64, am)] ++ [], Z.2.2); rw [List.append_nil]; exact K2) (by show pz_ok (Z.1 + 1, Z.2.1 ++ [(Z.1, a, h.toInt64, am)] ++ [], Z.2.2); rw [List.append_nil]; exact ok2) (g1.Z.tr g2.Z)
      refine ⟨W3, ?_, r3⟩
      refine jx_T.step (pc' := 62) (st' := [_]) rfl rfl ?_
      refine jx_T.step (pc' := 64) (ls' := [_, _, _, _, _, _, _, _]) (st' := []) rfl rfl ?_
      exact t3
    by_cases y : sv_bt (T.2.2.1 i)
    · rw [if_pos y, if_pos y]
      obtain ⟨W2, c2, W3, t3, r3⟩ := key 3 (sv_am (T.2.2.1 i)) (by decide)
      refine ⟨W3, ?_, r3⟩
      show jx_T 62 0 [.ref 19, .ref x, .int (nI i), .int h, .retAddr 0, .retAddr 0, .retAddr 0, .retAddr 0] [] _ _ _
      refine jx_T.step (pc' := 1) (st' := [_]) rfl rfl ?_
      refine cl.brn rfl (fun _ => ?_) (fun q => absurd q z)
      refine jx_T.step (pc' := 6) (st' := [_]) rfl rfl ?_
      refine cl.geti (h1).1 (h1).2 rfl rfl ?_
      refine jx_T.step (pc' := 10) (st' := [_, _]) rfl rfl ?_
      refine cl.aaldi (h2).1 (h2).2 rfl (by decide) (rf_ix (by omega) (by decide)) ?_
      rw [nI_clamp (by omega), e1]
      refine jx_T.step (pc' := 13) (ls' := [_, _, _, _, _, _, _, _]) (st' := []) rfl rfl ?_
      refine jx_T.step (pc' := 14) (st' := [_]) rfl rfl ?_
      refine cl.get 19 (by decide) rfl (cw_c19 _) rfl ?_
      refine cl.v0I (hc_fix 22 (by decide) (cw_c22 _)) rfl (by decide) rfl ⟨Nat.le_of_ble_eq_true rfl, rfl⟩ (Nat.le_of_ble_eq_true rfl) (c1) ?_
      refine jx_T.step (pc' := 22) (ls' := [_, _, _, _, _, _, _, _]) (st' := []) rfl rfl ?_
      refine jx_T.step (pc' := 24) (st' := [_]) rfl rfl ?_
      refine cl.v0I (hc_imm (q1).1 (q1).2) rfl (by decide) rfl ⟨Nat.le_of_ble_eq_true rfl, rfl⟩ (Nat.le_of_ble_eq_true rfl) (cb W1) ?_
      refine cl.br rfl (jx_br_eq _ _) (fun zq => absurd zq (fun q => (rf_o_0 _).mp q y)) (fun _ => ?_)
      refine jx_T.step (pc' := 31) (st' := [_]) rfl rfl ?_
      refine cl.get 19 (by decide) rfl (cw_c19 _) rfl ?_
      refine jx_T.step (pc' := 36) (st' := [_, _]) rfl rfl ?_
      refine jx_T.step (pc' := 37) (st' := [_, _, _]) rfl rfl ?_
      refine jx_T.step (pc' := 38) (st' := [_, _, _, _]) rfl rfl ?_
      refine jx_T.step (pc' := 40) (st' := [_, _, _, _, _]) rfl rfl ?_
      refine cl.geti (q1).1 (q1).2 rfl rfl ?_
      refine cl.v4V (hc_fix 22 (by decide) (cw_c22 _)) rfl (by decide) rfl ⟨Nat.le_of_ble_eq_true rfl, rfl⟩ (Nat.le_of_ble_eq_true rfl) (c2) ?_
      refine jx_T.step (pc' := 61) (st' := []) rfl rfl ?_
      exact t3
    · rw [if_neg y, if_neg y]
      obtain ⟨W2, c2, W3, t3, r3⟩ := key 1 0 (by decide)
      refine ⟨W3, ?_, r3⟩
      show jx_T 62 0 [.ref 19, .ref x, .int (nI i), .int h, .retAddr 0, .retAddr 0, .retAddr 0, .retAddr 0] [] _ _ _
      refine jx_T.step (pc' := 1) (st' := [_]) rfl rfl ?_
      refine cl.brn rfl (fun _ => ?_) (fun q => absurd q z)
      refine jx_T.step (pc' := 6) (st' := [_]) rfl rfl ?_
      refine cl.geti (h1).1 (h1).2 rfl rfl ?_
      refine jx_T.step (pc' := 10) (st' := [_, _]) rfl rfl ?_
      refine cl.aaldi (h2).1 (h2).2 rfl (by decide) (rf_ix (by omega) (by decide)) ?_
      rw [nI_clamp (by omega), e1]
      refine jx_T.step (pc' := 13) (ls' := [_, _, _, _, _, _, _, _]) (st' := []) rfl rfl ?_
      refine jx_T.step (pc' := 14) (st' := [_]) rfl rfl ?_
      refine cl.get 19 (by decide) rfl (cw_c19 _) rfl ?_
      refine cl.v0I (hc_fix 22 (by decide) (cw_c22 _)) rfl (by decide) rfl ⟨Nat.le_of_ble_eq_true rfl, rfl⟩ (Nat.le_of_ble_eq_true rfl) (c1) ?_
      refine jx_T.step (pc' := 22) (ls' := [_, _, _, _, _, _, _, _]) (st' := []) rfl rfl ?_
      refine jx_T.step (pc' := 24) (st' := [_]) rfl rfl ?_
      refine cl.v0I (hc_imm (q1).1 (q1).2) rfl (by decide) rfl ⟨Nat.le_of_ble_eq_true rfl, rfl⟩ (Nat.le_of_ble_eq_true rfl) (cb W1) ?_
      refine cl.br rfl (jx_br_eq _ _) (fun _ => ?_) (fun zq => absurd ((rf_o_0 _).mpr y) zq)
      refine jx_T.step (pc' := 50) (st' := [_]) rfl rfl ?_
      refine cl.get 19 (by decide) rfl (cw_c19 _) rfl ?_
      refine jx_T.step (pc' := 55) (st' := [_, _]) rfl rfl ?_
      refine jx_T.step (pc' := 56) (st' := [_, _, _]) rfl rfl ?_
      refine jx_T.step (pc' := 57) (st' := [_, _, _, _]) rfl rfl ?_
      refine jx_T.step (pc' := 58) (st' := [_, _, _, _, _]) rfl rfl ?_
      refine cl.v4V (hc_fix 22 (by decide) (cw_c22 _)) rfl (by decide) rfl ⟨Nat.le_of_ble_eq_true rfl, rfl⟩ (Nat.le_of_ble_eq_true rfl) (c2) ?_
      exact t3
end
