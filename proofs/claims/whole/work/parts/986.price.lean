/-! Pricing: a place, the beginning -/
def pz_p1 (T : tv) (L : List Int32) (w : Int32) (k l : Nat) (Z : pz) : Nat → pz
  | 0 => Z
  | i + 1 => if sv_hot (T.2.2.1 i) = 0 then pz_p1 T L w k l Z i else pz_gv T w i (pz_h T L w i k l) (pz_p1 T L w k l Z i)
def pz_p2 (T : tv) (L : List Int32) (w : Int32) (k l : Nat) (Z : pz) : Nat → pz
  | 0 => Z
  | i + 1 => if sv_hot (T.2.2.1 i) = 0 then pz_tk T w i (pz_h T L w i k l) (pz_p2 T L w k l Z i) else pz_p2 T L w k l Z i
/-- how many hot ones, cold ones have heat at a place -/
def pz_cg (T : tv) (L : List Int32) (w : Int32) (k l : Nat) : Nat → Nat
  | 0 => 0
  | i + 1 => if sv_hot (T.2.2.1 i) = 0 ∨ pz_h T L w i k l = 0 then pz_cg T L w k l i else pz_cg T L w k l i + 1
def pz_ck (T : tv) (L : List Int32) (w : Int32) (k l : Nat) : Nat → Nat
  | 0 => 0
  | i + 1 => if ¬ sv_hot (T.2.2.1 i) = 0 ∨ pz_h T L w i k l = 0 then pz_ck T L w k l i else pz_ck T L w k l i + 1
theorem pz_cg_mono (T : tv) (L : List Int32) (w : Int32) (k l j : Nat) : ∀ d, pz_cg T L w k l j ≤ pz_cg T L w k l (j + d)
  | 0 => Nat.le_refl _
  | d + 1 => by
    have ih := pz_cg_mono T L w k l j d
    show _ ≤ pz_cg T L w k l (j + d + 1)
    rw [pz_cg]
    split <;> omega
theorem pz_ck_mono (T : tv) (L : List Int32) (w : Int32) (k l j : Nat) : ∀ d, pz_ck T L w k l j ≤ pz_ck T L w k l (j + d)
  | 0 => Nat.le_refl _
  | d + 1 => by
    have ih := pz_ck_mono T L w k l j d
    show _ ≤ pz_ck T L w k l (j + d + 1)
    rw [pz_ck]
    split <;> omega
theorem pz_p1_len (T : tv) (L : List Int32) (w : Int32) (k l : Nat) (Z : pz) : ∀ i, (pz_p1 T L w k l Z i).1 = Z.1 + pz_cg T L w k l i ∧ (pz_p1 T L w k l Z i).2.1.length ≤ Z.2.1.length + 2 * pz_cg T L w k l i
  | 0 => ⟨rfl, Nat.le_refl _⟩
  | i + 1 => by
    have ih := pz_p1_len T L w k l Z i
    unfold pz_p1 pz_cg
    by_cases z : sv_hot (T.2.2.1 i) = 0
    · rw [if_pos z, if_pos (Or.inl z)]
      exact ih
    · rw [if_neg z]
      unfold pz_gv
      by_cases y : pz_h T L w i k l = 0
      · rw [if_pos y, if_pos (Or.inr y)]
        exact ih
      · rw [if_neg y, if_neg (show ¬ (sv_hot (T.2.2.1 i) = 0 ∨ pz_h T L w i k l = 0) from fun q => q.elim z y)]
        have h1 := pz_o_len ((pz_p1 T L w k l Z i).2.2 i) (pz_p1 T L w k l Z i).1 w
        refine ⟨by show (pz_p1 T L w k l Z i).1 + 1 = _; omega, ?_⟩
        show (_ ++ _ ++ _ : List gA).length ≤ _
        rw [List.length_append, List.length_append]
        show _ + 1 + _ ≤ _
        omega
theorem pz_p2_len (T : tv) (L : List Int32) (w : Int32) (k l : Nat) (Z : pz) : ∀ i, (pz_p2 T L w k l Z i).1 = Z.1 + pz_ck T L w k l i ∧ (pz_p2 T L w k l Z i).2.1.length ≤ Z.2.1.length + (1 + pz_hn T T.2.1) * pz_ck T L w k l i
  | 0 => ⟨rfl, by rw [pz_ck, Nat.mul_zero]; exact Nat.le_refl _⟩
  | i + 1 => by
    have ih := pz_p2_len T L w k l Z i
    unfold pz_p2 pz_ck
    by_cases z : sv_hot (T.2.2.1 i) = 0
    · rw [if_pos z]
      unfold pz_tk
      by_cases y : pz_h T L w i k l = 0
      · rw [if_pos y, if_pos (Or.inr y)]
        exact ih
      · rw [if_neg y, if_neg (show ¬ (¬ sv_hot (T.2.2.1 i) = 0 ∨ pz_h T L w i k l = 0) from fun q => q.elim (fun q => q z) y), Nat.mul_add]
        have h1 := pz_x_len T w i (pz_p2 T L w k l Z i).2.2 (pz_p2 T L w k l Z i).1 T.2.1
        refine ⟨by show (pz_p2 T L w k l Z i).1 + 1 = _; omega, ?_⟩
        show (_ ++ _ ++ _ : List gA).length ≤ _
        rw [List.length_append, List.length_append]
        show _ + 1 + _ ≤ _
        omega
    · rw [if_neg z, if_pos (Or.inl z)]
      exact ih
def pz_pl (T : tv) (L : List Int32) (w : Int32) (k l : Nat) (Z : pz) : pz := pz_p2 T L w k l (pz_p1 T L w k l Z T.2.1) T.2.1
section
variable {g : Nat → Option jx_E} {nx s x : Nat} {T : tv} {W : cw} {L : List Int32} {w : Int32} {Z : pz}
theorem kc_addPlace (im : im_sta g x T) (okT : tv_ok T) (e : pz_e W L w) (K : pz_W T.2.1 W Z) (ok : pz_ok Z) (k l : Nat) (hk : k < L.length) (hl : l = 0 ∨ l = 1) (hN : Z.1 + pz_cg T L w k l T.2.1 + pz_ck T L w k l T.2.1 ≤ 1324) (hA : Z.2.1.length + 2 * pz_cg T L w k l T.2.1 + (1 + pz_hn T T.2.1) * pz_ck T L w k l T.2.1 ≤ 5943) : ∃ W2, jx_T 59 0 (jx_ent 59 [.ref 19, .ref x, .int (nI k), .int (nI l)]) [] (hc W g nx s) none (hc W2 g nx s) ∧ pz_W T.2.1 W2 (pz_pl T L w k l Z) ∧ pz_ok (pz_pl T L w k l Z) ∧ kz_f W W2 := by
  have hM := okT.1
  have im0 := im
  obtain ⟨s1, s2, s3, s4, f1, f2, f3, h1, h2, h3, -⟩ := im
  have hl1 := pz_p1_len T L w k l Z T.2.1
  -- the takers
  have loop2 : ∀ d i (W1 : cw), i + d = T.2.1 → pz_W T.2.1 W1 (pz_p2 T L w k l (pz_p1 T L w k l Z T.2.1) i) → pz_ok (pz_p2 T L w k l (pz_p1 T L w k l Z T.2.1) i) → kz_f W W1 → ∃ W2, (pz_W T.2.1 W2 (pz_pl T L w k l Z) ∧ pz_ok (pz_pl T L w k l Z) ∧ kz_f W W2) ∧ jx_T 59 56 [.ref 19, .ref x, .int (nI k), .int (nI l), .int (nI i)] [] (hc W1 g nx s) none (hc W2 g nx s) := by
    intro d
    induction d with
    | zero =>
      intro i W1 hi K1 ok1 fr
      obtain rfl : i = T.2.1 := by omega
      refine ⟨W1, ⟨K1, ok1, fr⟩, ?_⟩
      refine jx_T.step (pc' := 58) (st' := [_]) rfl rfl ?_
      refine jx_T.step (pc' := 59) (st' := [_, _]) rfl rfl ?_
      refine cl.geti (h1).1 (h1).2 rfl rfl ?_
      refine cl.bc rfl (jx_br_ge _ _) (fun _ => ?_) (fun zq => absurd (Int32.le_refl _) zq)
      exact jx_T.ret rfl rfl
    | succ d ih =>
      intro i W1 hi K1 ok1 fr
      obtain ⟨b, eb, imb⟩ := h3 i (by omega)
      obtain ⟨ad, af, q1, q2, q3⟩ := imb
      have e1 := e.k fr
      by_cases z : sv_hot (T.2.2.1 i) = 0
      · have ch := kc_heatAt (nx := nx) (s := s) im0 okT e1 i k l (by omega) hk hl
        have hl2 := pz_p2_len T L w k l (pz_p1 T L w k l Z T.2.1) i
        have mo := pz_ck_mono T L w k l (i + 1) d
        rw [show i + 1 + d = T.2.1 by omega, pz_ck] at mo
        obtain ⟨W2, c2, K2, ok2, g2⟩ := kc_addTaker (nx := nx) (s := s) im0 okT e1 K1 ok1 i (by omega) (pz_h T L w i k l) (by
          by_cases y : pz_h T L w i k l = 0
          · exact Or.inl y
          · rw [if_neg (fun q => q.elim (fun q => q z) y)] at mo
            have mu := Nat.mul_le_mul_left (1 + pz_hn T T.2.1) mo
            rw [Nat.mul_add] at mu
            exact Or.inr ⟨by omega, by omega⟩)
        have ex : pz_p2 T L w k l (pz_p1 T L w k l Z T.2.1) (i + 1) = pz_tk T w i (pz_h T L w i k l) (pz_p2 T L w k l (pz_p1 T L w k l Z T.2.1) i) := by rw [pz_p2, if_pos z]
        rw [← ex] at K2 ok2
        obtain ⟨W3, r3, t3⟩ := ih (i + 1) W2 (by omega) K2 ok2 (fr.tr g2)
        refine ⟨W3, r3, ?_⟩
        refine jx_T.step (pc' := 58) (st' := [_]) rfl rfl ?_
        refine jx_T.step (pc' := 59) (st' := [_, _]) rfl rfl ?_
        refine cl.geti (h1).1 (h1).2 rfl rfl ?_
        refine cl.bc rfl (jx_br_ge _ _) (fun zq => absurd zq (nI_ge (by omega) (by omega))) (fun _ => ?_)
        refine jx_T.step (pc' := 66) (st' := [_]) rfl rfl ?_
        refine cl.geti (h1).1 (h1).2 rfl rfl ?_
        refine jx_T.step (pc' := 71) (st' := [_, _]) rfl rfl ?_
        refine cl.aaldi (h2).1 (h2).2 rfl (by decide) (rf_ix (by omega) (by decide)) ?_
        rw [nI_clamp (by omega), eb]
        refine cl.geti (q1).1 (q1).2 rfl rfl ?_
        refine cl.brn rfl (fun q => absurd z q) (fun _ => ?_)
        refine jx_T.step (pc' := 79) (st' := [_]) rfl rfl ?_
        refine jx_T.step (pc' := 80) (st' := [_, _]) rfl rfl ?_
        refine jx_T.step (pc' := 82) (st' := [_, _, _]) rfl rfl ?_
        refine jx_T.step (pc' := 83) (st' := [_, _, _, _]) rfl rfl ?_
        refine jx_T.step (pc' := 84) (st' := [_, _, _, _, _]) rfl rfl ?_
        refine jx_T.step (pc' := 86) (st' := [_, _, _, _, _, _]) rfl rfl ?_
        refine jx_T.step (pc' := 87) (st' := [_, _, _, _, _, _, _]) rfl rfl ?_
        refine jx_T.step (pc' := 88) (st' := [_, _, _, _, _, _, _, _]) rfl rfl ?_
        refine cl.v4I (hc_fix 19 (by decide) (cw_c19 _)) rfl (by decide) rfl ⟨Nat.le_of_ble_eq_true rfl, rfl⟩ (Nat.le_of_ble_eq_true rfl) (ch) ?_
        refine cl.v3V (hc_fix 19 (by decide) (cw_c19 _)) rfl (by decide) rfl ⟨Nat.le_of_ble_eq_true rfl, rfl⟩ (Nat.le_of_ble_eq_true rfl) (c2) ?_
        refine jx_T.step (pc' := 97) (ls' := [_, _, _, _, _]) (st' := []) rfl rfl ?_
        refine jx_T.step (pc' := 56) (st' := []) rfl rfl ?_
        rw [nI_1]
        exact t3
      · have ex : pz_p2 T L w k l (pz_p1 T L w k l Z T.2.1) (i + 1) = pz_p2 T L w k l (pz_p1 T L w k l Z T.2.1) i := by rw [pz_p2, if_neg z]
        rw [← ex] at K1 ok1
        obtain ⟨W3, r3, t3⟩ := ih (i + 1) W1 (by omega) K1 ok1 fr
        refine ⟨W3, r3, ?_⟩
        refine jx_T.step (pc' := 58) (st' := [_]) rfl rfl ?_
        refine jx_T.step (pc' := 59) (st' := [_, _]) rfl rfl ?_
        refine cl.geti (h1).1 (h1).2 rfl rfl ?_
        refine cl.bc rfl (jx_br_ge _ _) (fun zq => absurd zq (nI_ge (by omega) (by omega))) (fun _ => ?_)
        refine jx_T.step (pc' := 66) (st' := [_]) rfl rfl ?_
        refine cl.geti (h1).1 (h1).2 rfl rfl ?_
        refine jx_T.step (pc' := 71) (st' := [_, _]) rfl rfl ?_
        refine cl.aaldi (h2).1 (h2).2 rfl (by decide) (rf_ix (by omega) (by decide)) ?_
        rw [nI_clamp (by omega), eb]
        refine cl.geti (q1).1 (q1).2 rfl rfl ?_
        refine cl.brn rfl (fun _ => ?_) (fun q => absurd q z)
        refine jx_T.step (pc' := 97) (ls' := [_, _, _, _, _]) (st' := []) rfl rfl ?_
        refine jx_T.step (pc' := 56) (st' := []) rfl rfl ?_
        rw [nI_1]
        exact t3
  -- the givers
  have loop1 : ∀ d i (W1 : cw), i + d = T.2.1 → pz_W T.2.1 W1 (pz_p1 T L w k l Z i) → pz_ok (pz_p1 T L w k l Z i) → kz_f W W1 → ∃ W2, (pz_W T.2.1 W2 (pz_pl T L w k l Z) ∧ pz_ok (pz_pl T L w k l Z) ∧ kz_f W W2) ∧ jx_T 59 3 [.ref 19, .ref x, .int (nI k), .int (nI l), .int (nI i)] [] (hc W1 g nx s) none (hc W2 g nx s) := by
    intro d
    induction d with
    | zero =>
      intro i W1 hi K1 ok1 fr
      obtain rfl : i = T.2.1 := by omega
      obtain ⟨W2, r2, t2⟩ := loop2 T.2.1 0 W1 (by omega) K1 ok1 fr
      refine ⟨W2, r2, ?_⟩
      refine jx_T.step (pc' := 5) (st' := [_]) rfl rfl ?_
      refine jx_T.step (pc' := 6) (st' := [_, _]) rfl rfl ?_
      refine cl.geti (h1).1 (h1).2 rfl rfl ?_
      refine cl.bc rfl (jx_br_ge _ _) (fun _ => ?_) (fun zq => absurd (Int32.le_refl _) zq)
      refine jx_T.step (pc' := 54) (st' := [_]) rfl rfl ?_
      refine jx_T.step (pc' := 56) (ls' := [_, _, _, _, _]) (st' := []) rfl rfl ?_
      exact t2
    | succ d ih =>
      intro i W1 hi K1 ok1 fr
      obtain ⟨b, eb, imb⟩ := h3 i (by omega)
      have imb0 := imb
      obtain ⟨ad, af, q1, q2, q3⟩ := imb
      have e1 := e.k fr
      by_cases z : sv_hot (T.2.2.1 i) = 0
      · have ex : pz_p1 T L w k l Z (i + 1) = pz_p1 T L w k l Z i := by rw [pz_p1, if_pos z]
        rw [← ex] at K1 ok1
        obtain ⟨W3, r3, t3⟩ := ih (i + 1) W1 (by omega) K1 ok1 fr
        refine ⟨W3, r3, ?_⟩
        refine jx_T.step (pc' := 5) (st' := [_]) rfl rfl ?_
        refine jx_T.step (pc' := 6) (st' := [_, _]) rfl rfl ?_
        refine cl.geti (h1).1 (h1).2 rfl rfl ?_
        refine cl.bc rfl (jx_br_ge _ _) (fun zq => absurd zq (nI_ge (by omega) (by omega))) (fun _ => ?_)
        refine jx_T.step (pc' := 13) (st' := [_]) rfl rfl ?_
        refine cl.geti (h1).1 (h1).2 rfl rfl ?_
        refine jx_T.step (pc' := 18) (st' := [_, _]) rfl rfl ?_
        refine cl.aaldi (h2).1 (h2).2 rfl (by decide) (rf_ix (by omega) (by decide)) ?_
        rw [nI_clamp (by omega), eb]
        refine cl.geti (q1).1 (q1).2 rfl rfl ?_
        refine cl.br rfl (jx_br_eq _ _) (fun _ => ?_) (fun zq => absurd (z) zq)
        refine jx_T.step (pc' := 50) (ls' := [_, _, _, _, _]) (st' := []) rfl rfl ?_
        refine jx_T.step (pc' := 3) (st' := []) rfl rfl ?_
        rw [nI_1]
        exact t3
      · have ch := kc_heatAt (nx := nx) (s := s) im0 okT e1 i k l (by omega) hk hl
        have hl2 := pz_p1_len T L w k l Z i
        have mo := pz_cg_mono T L w k l (i + 1) d
        rw [show i + 1 + d = T.2.1 by omega, pz_cg] at mo
        obtain ⟨W2, c2, K2, ok2, g2⟩ := kc_addGiver (nx := nx) (s := s) (T := T) (i := i) rfl imb0 e1 K1 ok1 (pz_h T L w i k l) (by
          by_cases y : pz_h T L w i k l = 0
          · exact Or.inl y
          · rw [if_neg (fun q => q.elim z y)] at mo
            exact Or.inr ⟨by omega, by omega⟩) (by omega) hM
        have ex : pz_p1 T L w k l Z (i + 1) = pz_gv T w i (pz_h T L w i k l) (pz_p1 T L w k l Z i) := by rw [pz_p1, if_neg z]
        rw [← ex] at K2 ok2
        obtain ⟨W3, r3, t3⟩ := ih (i + 1) W2 (by omega) K2 ok2 (fr.tr g2)
        refine ⟨W3, r3, ?_⟩
        refine jx_T.step (pc' := 5) (st' := [_]) rfl rfl ?_
        refine jx_T.step (pc' := 6) (st' := [_, _]) rfl rfl ?_
        refine cl.geti (h1).1 (h1).2 rfl rfl ?_
        refine cl.bc rfl (jx_br_ge _ _) (fun zq => absurd zq (nI_ge (by omega) (by omega))) (fun _ => ?_)
        refine jx_T.step (pc' := 13) (st' := [_]) rfl rfl ?_
        refine cl.geti (h1).1 (h1).2 rfl rfl ?_
        refine jx_T.step (pc' := 18) (st' := [_, _]) rfl rfl ?_
        refine cl.aaldi (h2).1 (h2).2 rfl (by decide) (rf_ix (by omega) (by decide)) ?_
        rw [nI_clamp (by omega), eb]
        refine cl.geti (q1).1 (q1).2 rfl rfl ?_
        refine cl.br rfl (jx_br_eq _ _) (fun zq => absurd zq (z)) (fun _ => ?_)
        refine jx_T.step (pc' := 26) (st' := [_]) rfl rfl ?_
        refine jx_T.step (pc' := 27) (st' := [_, _]) rfl rfl ?_
        refine cl.geti (h1).1 (h1).2 rfl rfl ?_
        refine jx_T.step (pc' := 32) (st' := [_, _, _]) rfl rfl ?_
        refine cl.aaldi (h2).1 (h2).2 rfl (by decide) (rf_ix (by omega) (by decide)) ?_
        rw [nI_clamp (by omega), eb]
        refine jx_T.step (pc' := 35) (st' := [_, _, _]) rfl rfl ?_
        refine jx_T.step (pc' := 36) (st' := [_, _, _, _]) rfl rfl ?_
        refine jx_T.step (pc' := 37) (st' := [_, _, _, _, _]) rfl rfl ?_
        refine jx_T.step (pc' := 39) (st' := [_, _, _, _, _, _]) rfl rfl ?_
        refine jx_T.step (pc' := 40) (st' := [_, _, _, _, _, _, _]) rfl rfl ?_
        refine jx_T.step (pc' := 41) (st' := [_, _, _, _, _, _, _, _]) rfl rfl ?_
        refine cl.v4I (hc_fix 19 (by decide) (cw_c19 _)) rfl (by decide) rfl ⟨Nat.le_of_ble_eq_true rfl, rfl⟩ (Nat.le_of_ble_eq_true rfl) (ch) ?_
        refine cl.v3V (hc_fix 19 (by decide) (cw_c19 _)) rfl (by decide) rfl ⟨Nat.le_of_ble_eq_true rfl, rfl⟩ (Nat.le_of_ble_eq_true rfl) (c2) ?_
        refine jx_T.step (pc' := 50) (ls' := [_, _, _, _, _]) (st' := []) rfl rfl ?_
        refine jx_T.step (pc' := 3) (st' := []) rfl rfl ?_
        rw [nI_1]
        exact t3
  obtain ⟨W2, r2, t2⟩ := loop1 T.2.1 0 W (by omega) K ok kz_f.rf
  refine ⟨W2, ?_, r2⟩
  show jx_T 59 0 [.ref 19, .ref x, .int (nI k), .int (nI l), .retAddr 0] [] _ _ _
  refine jx_T.step (pc' := 1) (st' := [_]) rfl rfl ?_
  refine jx_T.step (pc' := 3) (ls' := [_, _, _, _, _]) (st' := []) rfl rfl ?_
  exact t2
/-- what real streams give, want -/
def pz_gs (T : tv) : Nat → Int32
  | 0 => 0
  | i + 1 => if sv_bt (T.2.2.1 i) then pz_gs T i else pz_gs T i + (if sv_hot (T.2.2.1 i) = 0 then 0 else sv_am (T.2.2.1 i))
def pz_ws (T : tv) : Nat → Int32
  | 0 => 0
  | i + 1 => if sv_bt (T.2.2.1 i) then pz_ws T i else pz_ws T i + (if sv_hot (T.2.2.1 i) = 0 then sv_am (T.2.2.1 i) else 0)
def pz_L (T : tv) : Nat → List Int32
  | 0 => []
  | i + 1 => lv_all (pz_L T i) (sv_ls (T.2.2.1 i) T.1 (sv_n (T.2.2.1 i) + 1))
theorem pz_L_len {T : tv} (ok : tv_ok T) : ∀ i, i ≤ T.2.1 → (pz_L T i).length ≤ 9 * i
  | 0, _ => Nat.le_refl 0
  | i + 1, hi => by
    have h1 := pz_L_len ok i (by omega)
    have h2 := ok.2 i (by omega)
    have h3 := lv_all_len (sv_ls (T.2.2.1 i) T.1 (sv_n (T.2.2.1 i) + 1)) (pz_L T i)
    rw [sv_ls_len] at h3
    unfold pz_L
    omega
theorem nt_H.of {W W2 : cw} {H : List hA} {N : Nat} (K : nt_H W H N) (h : ∀ k, 23 ≤ k → k ≤ 27 → W2.1 k = W.1 k) (hf : ∀ y, W2.2.2.1 22 y = W.2.2.1 22 y) : nt_H W2 H N := by
  unfold nt_H
  rw [hf, hf, h 24 (by decide) (by decide), h 27 (by decide) (by decide), h 25 (by decide) (by decide), h 23 (by decide) (by decide)]
  exact K
def pz_b (W W1 : cw) (T : tv) (i : Nat) : Prop := nt_H W1 [] 4 ∧ kl_20 W1 (pz_L T i) ∧ (W1.2.2.1 19 3 = pz_gs T i ∧ W1.2.2.1 19 4 = pz_ws T i) ∧ (∀ j, j < i → W1.1 33 j = -1) ∧ kq_f W W1
theorem kc_begin (im : im_sta g x T) (okT : tv_ok T) : ∃ W2, jx_T 58 0 (jx_ent 58 [.ref 19, .ref x]) [] (hc W g nx s) none (hc W2 g nx s) ∧ pz_b W W2 T T.2.1 := by
  have hM := okT.1
  obtain ⟨s1, s2, s3, s4, f1, f2, f3, h1, h2, h3, -⟩ := im
  have loop : ∀ d i (W1 : cw) (u3 : Value), i + d = T.2.1 → pz_b W W1 T i → ∃ W2, pz_b W W2 T T.2.1 ∧ jx_T 58 28 [.ref 19, .ref x, .int (nI i), u3] [] (hc W1 g nx s) none (hc W2 g nx s) := by
    intro d
    induction d with
    | zero =>
      intro i W1 u3 hi b
      obtain rfl : i = T.2.1 := by omega
      refine ⟨W1, b, ?_⟩
      refine jx_T.step (pc' := 29) (st' := [_]) rfl rfl ?_
      refine jx_T.step (pc' := 30) (st' := [_, _]) rfl rfl ?_
      refine cl.geti (h1).1 (h1).2 rfl rfl ?_
      refine cl.bc rfl (jx_br_ge _ _) (fun _ => ?_) (fun zq => absurd (Int32.le_refl _) zq)
      exact jx_T.ret rfl rfl
    | succ d ih =>
      intro i W1 u3 hi b
      obtain ⟨b1, b2, b3, b4, b5⟩ := b
      obtain ⟨ab, eb, imb⟩ := h3 i (by omega)
      have hn := okT.2 i (by omega)
      have ll := pz_L_len okT i (by omega)
      obtain ⟨W2, e2⟩ : ∃ W2, W2 = cw_A W1 33 (upd (W1.1 33) i (-1)) := ⟨_, rfl⟩
      have k2 : kl_20 W2 (pz_L T i) := by
        subst e2
        exact ⟨b2.1, by rw [cw_An _ _ _ (by decide)]; exact b2.2⟩
      obtain ⟨W3, c3, k3, g3⟩ := kc_all20 W2 nx s imb hn T.1 _ k2 (by omega)
      have cb := kc_isBought W3 nx s imb
      have hd2 : W2.2 = W1.2 := by subst e2; rfl
      have b3' : W3.2.2.1 19 3 = pz_gs T i ∧ W3.2.2.1 19 4 = pz_ws T i := by
        rw [g3.2.2.1 19 3 (by decide), g3.2.2.1 19 4 (by decide), hd2]
        exact b3
      have b1' : nt_H W3 [] 4 := by
        refine b1.of (fun k k1 k2 => ?_) (fun y => ?_)
        · rw [g3.1 k (by omega)]
          subst e2
          rw [cw_An _ _ _ (by omega)]
        · rw [g3.2.2.1 22 y (fun q => absurd q.1 (by decide)), hd2]
      have b4' : ∀ j, j < i + 1 → W3.1 33 j = -1 := by
        intro j hj
        rw [g3.1 33 (by decide)]
        subst e2
        rw [cw_Ae]
        unfold upd
        by_cases y : j = i
        · rw [if_pos y]
        · rw [if_neg y]
          exact b4 j (by omega)
      have b5' : kq_f W W3 := by
        refine ⟨fun y => ?_, ?_, ?_⟩
        · rw [g3.2.2.1 1 y (fun q => absurd q.1 (by decide)), hd2]
          exact b5.1 y
        · rw [g3.2.1, hd2]
          exact b5.2.1
        · rw [g3.2.2.2, hd2]
          exact b5.2.2
      have head : ∀ {hh : jx_H}, jx_T 58 66 [.ref 19, .ref x, .int (nI i), .ref ab] [.int (rf_o (sv_bt (T.2.2.1 i)))] (hc W3 g nx s) none hh → jx_T 58 28 [.ref 19, .ref x, .int (nI i), u3] [] (hc W1 g nx s) none hh := by
        intro hh t
        have imb0 := imb
        obtain ⟨ad, af, q1, q2, q3⟩ := imb
        refine jx_T.step (pc' := 29) (st' := [_]) rfl rfl ?_
        refine jx_T.step (pc' := 30) (st' := [_, _]) rfl rfl ?_
        refine cl.geti (h1).1 (h1).2 rfl rfl ?_
        refine cl.bc rfl (jx_br_ge _ _) (fun zq => absurd zq (nI_ge (by omega) (by omega))) (fun _ => ?_)
        refine jx_T.step (pc' := 37) (st' := [_]) rfl rfl ?_
        refine cl.geti (h1).1 (h1).2 rfl rfl ?_
        refine jx_T.step (pc' := 41) (st' := [_, _]) rfl rfl ?_
        refine cl.aaldi (h2).1 (h2).2 rfl (by decide) (rf_ix (by omega) (by decide)) ?_
        rw [nI_clamp (by omega), eb]
        refine jx_T.step (pc' := 43) (ls' := [_, _, _, _]) (st' := []) rfl rfl ?_
        refine jx_T.step (pc' := 44) (st' := [_]) rfl rfl ?_
        refine cl.get 19 (by decide) rfl (cw_c19 _) rfl ?_
        refine jx_T.step (pc' := 48) (st' := [_, _]) rfl rfl ?_
        refine jx_T.step (pc' := 49) (st' := [_, _, _]) rfl rfl ?_
        refine cl.iast 33 (by decide) rfl (cw_c33 _) (cw_s33 _) (rf_ix (by omega) (by decide)) ?_
        rw [nI_clamp (by omega), ← e2]
        refine jx_T.step (pc' := 51) (st' := [_]) rfl rfl ?_
        refine cl.get 19 (by decide) rfl (cw_c19 _) rfl ?_
        refine jx_T.step (pc' := 55) (st' := [_, _]) rfl rfl ?_
        refine jx_T.step (pc' := 56) (st' := [_, _, _]) rfl rfl ?_
        refine cl.geti (h1).1 (h1).2 rfl rfl ?_
        refine cl.v2V (hc_fix 20 (by decide) (cw_c20 _)) rfl (by decide) rfl ⟨Nat.le_of_ble_eq_true rfl, rfl⟩ (Nat.le_of_ble_eq_true rfl) (c3) ?_
        refine jx_T.step (pc' := 63) (st' := [_]) rfl rfl ?_
        refine cl.v0I (hc_imm (q1).1 (q1).2) rfl (by decide) rfl ⟨Nat.le_of_ble_eq_true rfl, rfl⟩ (Nat.le_of_ble_eq_true rfl) (cb) ?_
        exact t
      obtain ⟨ad, af, q1, q2, q3⟩ := imb
      by_cases z : sv_bt (T.2.2.1 i)
      · obtain ⟨W5, r5, t5⟩ := ih (i + 1) W3 (.ref ab) (by omega) ⟨b1', k3, by rw [pz_gs, pz_ws, if_pos z, if_pos z]; exact b3', b4', b5'⟩
        refine ⟨W5, r5, head ?_⟩
        refine cl.brn rfl (fun _ => ?_) (fun q => absurd z ((rf_o_0 _).mp q))
        refine jx_T.step (pc' := 120) (ls' := [_, _, _, _]) (st' := []) rfl rfl ?_
        refine jx_T.step (pc' := 28) (st' := []) rfl rfl ?_
        rw [nI_1]
        exact t5
      · obtain ⟨W4, e4⟩ : ∃ W4, W4 = cw_I (cw_I W3 19 3 (pz_gs T (i + 1))) 19 4 (pz_ws T (i + 1)) := ⟨_, rfl⟩
        have h4a : W4.1 = W3.1 := by subst e4; rfl
        have h4b : W4.2.1 = W3.2.1 := by subst e4; rfl
        have h4c : ∀ k y, k ≠ 19 → W4.2.2.1 k y = W3.2.2.1 k y := by
          intro k y hk
          subst e4
          show (if k = 19 ∧ y = 4 then _ else if k = 19 ∧ y = 3 then _ else _) = _
          rw [if_neg (fun q => hk q.1), if_neg (fun q => hk q.1)]
        have h4d : W4.2.2.2 = W3.2.2.2 := by subst e4; rfl
        obtain ⟨W5, r5, t5⟩ := ih (i + 1) W4 (.ref ab) (by omega) ⟨b1'.of (fun k _ _ => by rw [h4a]) (fun y => h4c 22 y (by decide)), ⟨by rw [h4c 20 1 (by decide)]; exact k3.1, by rw [h4a]; exact k3.2⟩, by subst e4; exact ⟨rfl, rfl⟩, by rw [h4a]; exact b4', ⟨fun y => by rw [h4c 1 y (by decide)]; exact b5'.1 y, by rw [h4b]; exact b5'.2.1, by rw [h4d]; exact b5'.2.2⟩⟩
        refine ⟨W5, r5, head ?_⟩
        refine cl.brn rfl (fun q => absurd ((rf_o_0 _).mpr z) q) (fun _ => ?_)
        have t117 : jx_T 58 117 [.ref 19, .ref x, .int (nI i), .ref ab] [] (hc W4 g nx s) none (hc W5 g nx s) := by
          refine jx_T.step (pc' := 120) (ls' := [_, _, _, _]) (st' := []) rfl rfl ?_
          refine jx_T.step (pc' := 28) (st' := []) rfl rfl ?_
          rw [nI_1]
          exact t5
        by_cases y : sv_hot (T.2.2.1 i) = 0
        · have eg : pz_gs T (i + 1) = W3.2.2.1 19 3 + 0 := by rw [pz_gs, if_neg z, if_pos y, b3'.1]
          have ew : pz_ws T (i + 1) = W3.2.2.1 19 4 + sv_am (T.2.2.1 i) := by rw [pz_ws, if_neg z, if_pos y, b3'.2]
          rw [eg, ew] at e4
          refine jx_T.step (pc' := 70) (st' := [_]) rfl rfl ?_
          refine jx_T.step (pc' := 71) (st' := [_, _]) rfl rfl ?_
          refine cl.get 19 (by decide) rfl (cw_c19 _) rfl ?_
          refine jx_T.step (pc' := 75) (st' := [_, _, _]) rfl rfl ?_
          refine cl.geti (q1).1 (q1).2 rfl rfl ?_
          refine cl.br rfl (jx_br_eq _ _) (fun _ => ?_) (fun zq => absurd (y) zq)
          refine jx_T.step (pc' := 89) (st' := [_, _, _]) rfl rfl ?_
          refine jx_T.step (pc' := 90) (st' := [_, _]) rfl rfl ?_
          refine cl.put 19 (by decide) rfl (cw_c19 _) (Nat.le_of_ble_eq_true rfl) rfl (cw_f19_3 _ _) ?_
          refine jx_T.step (pc' := 94) (st' := [_]) rfl rfl ?_
          refine jx_T.step (pc' := 95) (st' := [_, _]) rfl rfl ?_
          refine cl.get 19 (by decide) rfl (cw_c19 _) rfl ?_
          refine jx_T.step (pc' := 99) (st' := [_, _, _]) rfl rfl ?_
          refine cl.geti (q1).1 (q1).2 rfl rfl ?_
          refine cl.br rfl (jx_br_eq _ _) (fun _ => ?_) (fun zq => absurd (y) zq)
          refine jx_T.step (pc' := 110) (st' := [_, _, _]) rfl rfl ?_
          refine cl.geti (q1).1 (q1).2 rfl rfl ?_
          refine jx_T.step (pc' := 114) (st' := [_, _]) rfl rfl ?_
          refine cl.put 19 (by decide) rfl (cw_c19 _) (Nat.le_of_ble_eq_true rfl) rfl (cw_f19_4 _ _) ?_
          subst e4
          exact t117
        · have eg : pz_gs T (i + 1) = W3.2.2.1 19 3 + sv_am (T.2.2.1 i) := by rw [pz_gs, if_neg z, if_neg y, b3'.1]
          have ew : pz_ws T (i + 1) = W3.2.2.1 19 4 + 0 := by rw [pz_ws, if_neg z, if_neg y, b3'.2]
          rw [eg, ew] at e4
          refine jx_T.step (pc' := 70) (st' := [_]) rfl rfl ?_
          refine jx_T.step (pc' := 71) (st' := [_, _]) rfl rfl ?_
          refine cl.get 19 (by decide) rfl (cw_c19 _) rfl ?_
          refine jx_T.step (pc' := 75) (st' := [_, _, _]) rfl rfl ?_
          refine cl.geti (q1).1 (q1).2 rfl rfl ?_
          refine cl.br rfl (jx_br_eq _ _) (fun zq => absurd zq (y)) (fun _ => ?_)
          refine jx_T.step (pc' := 82) (st' := [_, _, _]) rfl rfl ?_
          refine cl.geti (q1).1 (q1).2 rfl rfl ?_
          refine jx_T.step (pc' := 89) (st' := [_, _, _]) rfl rfl ?_
          refine jx_T.step (pc' := 90) (st' := [_, _]) rfl rfl ?_
          refine cl.put 19 (by decide) rfl (cw_c19 _) (Nat.le_of_ble_eq_true rfl) rfl (cw_f19_3 _ _) ?_
          refine jx_T.step (pc' := 94) (st' := [_]) rfl rfl ?_
          refine jx_T.step (pc' := 95) (st' := [_, _]) rfl rfl ?_
          refine cl.get 19 (by decide) rfl (cw_c19 _) rfl ?_
          refine jx_T.step (pc' := 99) (st' := [_, _, _]) rfl rfl ?_
          refine cl.geti (q1).1 (q1).2 rfl rfl ?_
          refine cl.br rfl (jx_br_eq _ _) (fun zq => absurd zq (y)) (fun _ => ?_)
          refine jx_T.step (pc' := 106) (st' := [_, _, _]) rfl rfl ?_
          refine jx_T.step (pc' := 113) (st' := [_, _, _]) rfl rfl ?_
          refine jx_T.step (pc' := 114) (st' := [_, _]) rfl rfl ?_
          refine cl.put 19 (by decide) rfl (cw_c19 _) (Nat.le_of_ble_eq_true rfl) rfl (cw_f19_4 _ _) ?_
          subst e4
          exact t117
  obtain ⟨W1, c1, K1, g1⟩ := kc_clear (g := g) (nx := nx) (s := s) W
  obtain ⟨W2, e2⟩ : ∃ W2, W2 = cw_I (cw_I (cw_I W1 20 1 0) 19 3 0) 19 4 0 := ⟨_, rfl⟩
  have h4c : ∀ k y, k ≠ 19 → k ≠ 20 → W2.2.2.1 k y = W1.2.2.1 k y := by
    intro k y hk hk2
    subst e2
    show (if k = 19 ∧ y = 4 then _ else if k = 19 ∧ y = 3 then _ else if k = 20 ∧ y = 1 then _ else _) = _
    rw [if_neg (fun q => hk q.1), if_neg (fun q => hk q.1), if_neg (fun q => hk2 q.1)]
  obtain ⟨W5, r5, t5⟩ := loop T.2.1 0 W2 (.retAddr 0) (by omega) ⟨K1.of (fun k _ _ => by subst e2; rfl) (fun y => h4c 22 y (by decide) (by decide)), by subst e2; exact ⟨rfl, rfl⟩, by subst e2; exact ⟨rfl, rfl⟩, fun j hj => absurd hj (Nat.not_lt_zero j), ⟨fun y => by rw [h4c 1 y (by decide) (by decide)]; exact g1.Q.1 y, by subst e2; exact g1.Q.2.1, by subst e2; exact g1.Q.2.2⟩⟩
  refine ⟨W5, ?_, r5⟩
  show jx_T 58 0 [.ref 19, .ref x, .retAddr 0, .retAddr 0] [] _ _ _
  refine jx_T.step (pc' := 1) (st' := [_]) rfl rfl ?_
  refine cl.get 19 (by decide) rfl (cw_c19 _) rfl ?_
  refine jx_T.step (pc' := 5) (st' := [_, _]) rfl rfl ?_
  refine cl.v1V (hc_fix 22 (by decide) (cw_c22 _)) rfl (by decide) rfl ⟨Nat.le_of_ble_eq_true rfl, rfl⟩ (Nat.le_of_ble_eq_true rfl) (c1) ?_
  refine jx_T.step (pc' := 9) (st' := [_]) rfl rfl ?_
  refine cl.get 19 (by decide) rfl (cw_c19 _) rfl ?_
  refine jx_T.step (pc' := 13) (st' := [_, _]) rfl rfl ?_
  refine cl.put 20 (by decide) rfl (cw_c20 _) (Nat.le_of_ble_eq_true rfl) rfl (cw_f20_1 _ _) ?_
  refine jx_T.step (pc' := 17) (st' := [_]) rfl rfl ?_
  refine jx_T.step (pc' := 18) (st' := [_, _]) rfl rfl ?_
  refine cl.put 19 (by decide) rfl (cw_c19 _) (Nat.le_of_ble_eq_true rfl) rfl (cw_f19_3 _ _) ?_
  refine jx_T.step (pc' := 22) (st' := [_]) rfl rfl ?_
  refine jx_T.step (pc' := 23) (st' := [_, _]) rfl rfl ?_
  refine cl.put 19 (by decide) rfl (cw_c19 _) (Nat.le_of_ble_eq_true rfl) rfl (cw_f19_4 _ _) ?_
  refine jx_T.step (pc' := 27) (st' := [_]) rfl rfl ?_
  refine jx_T.step (pc' := 28) (ls' := [_, _, _, _]) (st' := []) rfl rfl ?_
  subst e2
  exact t5
end
