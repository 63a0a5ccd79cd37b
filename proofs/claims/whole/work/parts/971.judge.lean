/-! the works' judge: distances -/
theorem cl.s2V {m pc : Nat} {ls : List Value} {v : Option Value} {h h2 : jx_H} {n len x y : Nat} {a1 a2 : Value} {k0 : Int32} {rest : List Value} {h1 : jx_H} (hr : jx_rc m pc = some (.invokestatic n, len, x, y, .int k0)) (hx : ¬ x = 6) (hk : k0 = 2) (hc : jx_cat rest ≤ 8) (hl : (jx_args [a1, a2]).length ≤ (jx_mi y).2.2.1) (hM : jx_T y 0 (jx_ent y [a1, a2]) [] h none h1) (k : jx_T m (pc + 3) ls rest h1 v h2) : jx_T m pc ls (a2 :: a1 :: rest) h v h2 := by
  subst hk
  exact jx_T.stat hr hx ⟨hc, Nat.le_of_ble_eq_true rfl⟩ rfl rfl hl hM k
def fdv (x y : Int64) : Int64 := if x ^^^ y < 0 ∧ ¬ x / y * y = x then x / y - 1 else x / y
theorem kc_floorDiv (h : jx_H) (x y : Int64) (hy : ¬ y = 0) : jx_T 212 0 (jx_ent 212 [.long x, .long y]) [] h (some (.long (fdv x y))) h := by
  show jx_T 212 0 [.long x, .retAddr 0, .long y, .retAddr 0, .retAddr 0, .retAddr 0] [] _ _ _
  unfold fdv
  refine jx_T.step (pc' := 1) (st' := [_]) rfl rfl ?_
  refine jx_T.step (pc' := 2) (st' := [_, _]) rfl rfl ?_
  refine cl.ldiv rfl hy ?_
  refine jx_T.step (pc' := 5) (ls' := [_, _, _, _, _, _]) (st' := []) rfl rfl ?_
  refine jx_T.step (pc' := 6) (st' := [_]) rfl rfl ?_
  refine jx_T.step (pc' := 7) (st' := [_, _]) rfl rfl ?_
  refine jx_T.step (pc' := 8) (st' := [_]) rfl rfl ?_
  refine jx_T.step (pc' := 9) (st' := [_, _]) rfl rfl ?_
  refine jx_T.step (pc' := 10) (st' := [_]) rfl rfl ?_
  by_cases z : x ^^^ y < 0
  · refine cl.br rfl (jx_br_ge _ _) (fun zq => absurd zq (Int32.not_le.mpr ((lg_cmp_lt0 _ _).mpr z))) (fun _ => ?_)
    refine jx_T.step (pc' := 15) (st' := [_]) rfl rfl ?_
    refine jx_T.step (pc' := 16) (st' := [_, _]) rfl rfl ?_
    refine jx_T.step (pc' := 17) (st' := [_]) rfl rfl ?_
    refine jx_T.step (pc' := 18) (st' := [_, _]) rfl rfl ?_
    refine jx_T.step (pc' := 19) (st' := [_]) rfl rfl ?_
    by_cases w : x / y * y = x
    · rw [if_neg (fun q => q.2 w)]
      refine cl.br rfl (jx_br_eq _ _) (fun _ => ?_) (fun zq => absurd ((lg_cmp_eq0 _ _).mpr w) zq)
      refine jx_T.step (pc' := 29) (st' := [_]) rfl rfl ?_
      exact jx_T.ret rfl rfl
    · rw [if_pos ⟨z, w⟩]
      refine cl.br rfl (jx_br_eq _ _) (fun zq => absurd zq (fun q => w ((lg_cmp_eq0 _ _).mp q))) (fun _ => ?_)
      refine jx_T.step (pc' := 24) (st' := [_]) rfl rfl ?_
      refine jx_T.step (pc' := 25) (st' := [_, _]) rfl rfl ?_
      refine jx_T.step (pc' := 26) (st' := [_]) rfl rfl ?_
      exact jx_T.ret rfl rfl
  · rw [if_neg (fun q => z q.1)]
    refine cl.br rfl (jx_br_ge _ _) (fun _ => ?_) (fun zq => absurd (Int32.not_lt.mp (fun q => z ((lg_cmp_lt0 _ _).mp q))) zq)
    refine jx_T.step (pc' := 29) (st' := [_]) rfl rfl ?_
    exact jx_T.ret rfl rfl
def dq_u (p q : plv) : Int64 := pq_un p * pq_un q
def dq_o (p q : plv) : Int64 := pq_ov p * pq_un q - pq_ov q * pq_un p
def dq (p q : plv) : Int32 := if dq_u p q = 0 then 0 else (fdv (1000 * dq_o p q) (dq_u p q)).toInt32
def imin (x y : Int32) : Int32 := if y < x then y else x
def ld_s (S1 S2 : sv) (p q : plv) (left : Int64) : Int64 := lmin left (lmin (pq_tb S1 p) (pq_tb S2 q))
def ld_lp (S1 S2 : sv) : Nat → plv → plv → Int64 → Int32 → Int32
  | 0, _, _, _, near => near
  | d + 1, p, q, left, near => if 0 < left then ld_lp S1 S2 d (pq_mv S1 p (ld_s S1 S2 p q left)) (pq_mv S2 q (ld_s S1 S2 p q left)) (left - ld_s S1 S2 p q left) (imin near (dq (pq_mv S1 p (ld_s S1 S2 p q left)) (pq_mv S2 q (ld_s S1 S2 p q left)))) else near
def ld_at (S1 S2 : sv) (p q : plv) (heat : Int64) : Int32 := ld_lp S1 S2 18 p q heat (dq p q)
/-- all but the judge's own stays -/
def kj_f (W W2 : cw) : Prop := (∀ k, k ≠ 12 → W2.1 k = W.1 k) ∧ (∀ k, k ≠ 11 → W2.2.1 k = W.2.1 k) ∧ (∀ k y, k ≠ 10 → k ≠ 13 → k ≠ 14 → W2.2.2.1 k y = W.2.2.1 k y) ∧ (∀ k y, k ≠ 10 → k ≠ 13 → k ≠ 14 → W2.2.2.2.1 k y = W.2.2.2.1 k y) ∧ W2.2.2.2.2.1 = W.2.2.2.2.1
theorem kj_f.rf {W : cw} : kj_f W W := ⟨fun _ _ => rfl, fun _ _ => rfl, fun _ _ _ _ _ => rfl, fun _ _ _ _ _ => rfl, rfl⟩
theorem kj_f.tr {W W2 W3 : cw} (a : kj_f W W2) (b : kj_f W2 W3) : kj_f W W3 := ⟨fun k h => (b.1 k h).trans (a.1 k h), fun k h => (b.2.1 k h).trans (a.2.1 k h), fun k y h h2 h3 => (b.2.2.1 k y h h2 h3).trans (a.2.2.1 k y h h2 h3), fun k y h h2 h3 => (b.2.2.2.1 k y h h2 h3).trans (a.2.2.2.1 k y h h2 h3), b.2.2.2.2.trans a.2.2.2.2⟩
theorem kj_f.Q {W W2 : cw} (a : kj_f W W2) : kq_f W W2 := ⟨fun y => a.2.2.1 1 y (by decide) (by decide) (by decide), a.2.1 34 (by decide), a.2.2.2.2⟩
/-- the places alone -/
def kr_p (W W2 : cw) : Prop := W2.1 = W.1 ∧ W2.2.1 = W.2.1 ∧ (∀ k y, k ≠ 13 → k ≠ 14 → W2.2.2.1 k y = W.2.2.1 k y) ∧ (∀ k y, k ≠ 13 → k ≠ 14 → W2.2.2.2.1 k y = W.2.2.2.1 k y) ∧ W2.2.2.2.2.1 = W.2.2.2.2.1
theorem kr_p.rf {W : cw} : kr_p W W := ⟨rfl, rfl, fun _ _ _ _ => rfl, fun _ _ _ _ => rfl, rfl⟩
theorem kr_p.tr {W W2 W3 : cw} (a : kr_p W W2) (b : kr_p W2 W3) : kr_p W W3 := ⟨b.1.trans a.1, b.2.1.trans a.2.1, fun k y h h2 => (b.2.2.1 k y h h2).trans (a.2.2.1 k y h h2), fun k y h h2 => (b.2.2.2.1 k y h h2).trans (a.2.2.2.1 k y h h2), b.2.2.2.2.trans a.2.2.2.2⟩
theorem kr_13.P {W W2 : cw} (a : kr_13 W W2) : kr_p W W2 := ⟨a.1, a.2.1, fun k y h _ => a.2.2.1 k y h, fun k y h _ => a.2.2.2.1 k y h, a.2.2.2.2.1⟩
theorem kr_14.P {W W2 : cw} (a : kr_14 W W2) : kr_p W W2 := ⟨a.1, a.2.1, fun k y _ h => a.2.2.1 k y h, fun k y _ h => a.2.2.2.1 k y h, a.2.2.2.2.1⟩
theorem kr_p.J {W W2 : cw} (a : kr_p W W2) : kj_f W W2 := ⟨fun k _ => by rw [a.1], fun k _ => by rw [a.2.1], fun k y _ h h2 => a.2.2.1 k y h h2, fun k y _ h h2 => a.2.2.2.1 k y h h2, a.2.2.2.2⟩
theorem kr_13.k14 {W W2 : cw} (a : kr_13 W W2) {b : Nat} {q : plv} (K : kp_14 W b q) : kp_14 W2 b q := ⟨(a.2.2.2.2.2 14 (by decide)).trans K.1, (a.2.2.1 14 1 (by decide)).trans K.2.1, (a.2.2.1 14 2 (by decide)).trans K.2.2.1, (a.2.2.1 14 3 (by decide)).trans K.2.2.2.1, (a.2.2.2.1 14 4 (by decide)).trans K.2.2.2.2⟩
theorem kr_14.k13 {W W2 : cw} (a : kr_14 W W2) {b : Nat} {q : plv} (K : kp_13 W b q) : kp_13 W2 b q := ⟨(a.2.2.2.2.2 13 (by decide)).trans K.1, (a.2.2.1 13 1 (by decide)).trans K.2.1, (a.2.2.1 13 2 (by decide)).trans K.2.2.1, (a.2.2.1 13 3 (by decide)).trans K.2.2.2.1, (a.2.2.2.1 13 4 (by decide)).trans K.2.2.2.2⟩
theorem pq_mv_le (S : sv) (q : plv) (x : Int64) (h : q.1 ≤ sv_n S) : (pq_mv S q x).1 ≤ sv_n S := pq_st_le S _ h
section
variable {W : cw} {g : Nat → Option jx_E} {nx s a b : Nat} {S1 S2 : sv} {p q : plv}
theorem kc_distance (K : kp_13 W a p) (L : kp_14 W b q) : jx_T 22 0 (jx_ent 22 [.ref 10]) [] (hc W g nx s) (some (.int (dq p q))) (hc W g nx s) := by
  have u1 := kc_under13 (g := g) (nx := nx) (s := s) K
  have u2 := kc_under14 (g := g) (nx := nx) (s := s) L
  have o1 := kc_over13 (g := g) (nx := nx) (s := s) K
  have o2 := kc_over14 (g := g) (nx := nx) (s := s) L
  unfold dq
  show jx_T 22 0 [.ref 10, .retAddr 0, .retAddr 0, .retAddr 0, .retAddr 0] [] _ _ _
  refine jx_T.step (pc' := 1) (st' := [_]) rfl rfl ?_
  refine cl.get 10 (by decide) rfl (cw_c10 _) rfl ?_
  refine cl.v0I (hc_fix 13 (by decide) (cw_c13 _)) rfl (by decide) rfl ⟨Nat.le_of_ble_eq_true rfl, rfl⟩ (Nat.le_of_ble_eq_true rfl) (u1) ?_
  refine jx_T.step (pc' := 8) (st' := [_, _]) rfl rfl ?_
  refine cl.get 10 (by decide) rfl (cw_c10 _) rfl ?_
  refine cl.v0I (hc_fix 14 (by decide) (cw_c14 _)) rfl (by decide) rfl ⟨Nat.le_of_ble_eq_true rfl, rfl⟩ (Nat.le_of_ble_eq_true rfl) (u2) ?_
  refine jx_T.step (pc' := 15) (st' := [_]) rfl rfl ?_
  refine jx_T.step (pc' := 16) (ls' := [_, _, _, _, _]) (st' := []) rfl rfl ?_
  refine jx_T.step (pc' := 17) (st' := [_]) rfl rfl ?_
  refine cl.get 10 (by decide) rfl (cw_c10 _) rfl ?_
  refine cl.v0I (hc_fix 13 (by decide) (cw_c13 _)) rfl (by decide) rfl ⟨Nat.le_of_ble_eq_true rfl, rfl⟩ (Nat.le_of_ble_eq_true rfl) (o1) ?_
  refine jx_T.step (pc' := 24) (st' := [_, _]) rfl rfl ?_
  refine cl.get 10 (by decide) rfl (cw_c10 _) rfl ?_
  refine cl.v0I (hc_fix 14 (by decide) (cw_c14 _)) rfl (by decide) rfl ⟨Nat.le_of_ble_eq_true rfl, rfl⟩ (Nat.le_of_ble_eq_true rfl) (u2) ?_
  refine jx_T.step (pc' := 31) (st' := [_]) rfl rfl ?_
  refine jx_T.step (pc' := 32) (st' := [_, _]) rfl rfl ?_
  refine cl.get 10 (by decide) rfl (cw_c10 _) rfl ?_
  refine cl.v0I (hc_fix 14 (by decide) (cw_c14 _)) rfl (by decide) rfl ⟨Nat.le_of_ble_eq_true rfl, rfl⟩ (Nat.le_of_ble_eq_true rfl) (o2) ?_
  refine jx_T.step (pc' := 39) (st' := [_, _, _]) rfl rfl ?_
  refine cl.get 10 (by decide) rfl (cw_c10 _) rfl ?_
  refine cl.v0I (hc_fix 13 (by decide) (cw_c13 _)) rfl (by decide) rfl ⟨Nat.le_of_ble_eq_true rfl, rfl⟩ (Nat.le_of_ble_eq_true rfl) (u1) ?_
  refine jx_T.step (pc' := 46) (st' := [_, _]) rfl rfl ?_
  refine jx_T.step (pc' := 47) (st' := [_]) rfl rfl ?_
  show jx_T 22 47 [.ref 10, .long (dq_u p q), .retAddr 0, .retAddr 0, .retAddr 0] [.long (dq_o p q)] _ _ _
  generalize dq_u p q = u
  generalize dq_o p q = o
  refine jx_T.step (pc' := 48) (ls' := [_, _, _, _, _]) (st' := []) rfl rfl ?_
  refine jx_T.step (pc' := 49) (st' := [_]) rfl rfl ?_
  refine jx_T.step (pc' := 50) (st' := [_, _]) rfl rfl ?_
  refine jx_T.step (pc' := 51) (st' := [_]) rfl rfl ?_
  by_cases z : u = 0
  · rw [if_pos z]
    refine cl.brn rfl (fun y => absurd ((lg_cmp_eq0 _ _).mpr z) y) (fun _ => ?_)
    refine jx_T.step (pc' := 55) (st' := [_]) rfl rfl ?_
    refine jx_T.step (pc' := 68) (st' := [_]) rfl rfl ?_
    exact jx_T.ret rfl rfl
  · rw [if_neg z]
    refine cl.brn rfl (fun _ => ?_) (fun y => absurd ((lg_cmp_eq0 _ _).mp y) z)
    refine jx_T.step (pc' := 61) (st' := [_]) rfl rfl ?_
    refine jx_T.step (pc' := 62) (st' := [_, _]) rfl rfl ?_
    refine jx_T.step (pc' := 63) (st' := [_]) rfl rfl ?_
    refine jx_T.step (pc' := 64) (st' := [_, _]) rfl rfl ?_
    refine cl.s2I rfl (by decide) rfl (Nat.le_of_ble_eq_true rfl) (Nat.le_of_ble_eq_true rfl) (kc_floorDiv _ _ _ z) ?_
    refine jx_T.step (pc' := 68) (st' := [_]) rfl rfl ?_
    exact jx_T.ret rfl rfl
theorem kc_leastDist (i1 : im_str g a S1) (i2 : im_str g b S2) (h1 : sv_n S1 ≤ 8) (h2 : sv_n S2 ≤ 8) (K : kp_13 W a p) (L : kp_14 W b q) (hp : p.1 ≤ sv_n S1) (hq : q.1 ≤ sv_n S2) (heat : Int64) : ∃ W2, jx_T 21 0 (jx_ent 21 [.ref 10, .long heat]) [] (hc W g nx s) (some (.int (ld_at S1 S2 p q heat))) (hc W2 g nx s) ∧ kr_p W W2 := by
  have loop : ∀ d k (W1 : cw) (p q : plv) (left : Int64) (near : Int32) (u7 u8 : Value), k + d = 18 → kp_13 W1 a p → kp_14 W1 b q → p.1 ≤ sv_n S1 → q.1 ≤ sv_n S2 → ∃ W2, jx_T 21 11 [.ref 10, .long heat, .retAddr 0, .long left, .retAddr 0, .int near, .int (nI k), u7, u8] [] (hc W1 g nx s) (some (.int (ld_lp S1 S2 d p q left near))) (hc W2 g nx s) ∧ kr_p W1 W2 := by
    intro d
    induction d with
    | zero =>
      intro k W1 p q left near u7 u8 hk K L hp hq
      obtain rfl : k = 18 := by omega
      refine ⟨W1, ?_, kr_p.rf⟩
      refine jx_T.step (pc' := 13) (st' := [_]) rfl rfl ?_
      refine jx_T.step (pc' := 15) (st' := [_, _]) rfl rfl ?_
      refine cl.bc rfl (jx_br_ge _ _) (fun _ => ?_) (fun zq => absurd (by decide) zq)
      refine jx_T.step (pc' := 89) (st' := [_]) rfl rfl ?_
      exact jx_T.ret rfl rfl
    | succ d ih =>
      intro k W1 p q left near u7 u8 hk K L hp hq
      unfold ld_lp
      by_cases z : 0 < left
      · rw [if_pos z]
        obtain ⟨st, est⟩ : ∃ st, st = ld_s S1 S2 p q left := ⟨_, rfl⟩
        rw [← est]
        obtain ⟨W2, c2, K2, f2⟩ := kc_move13 (nx := nx) (s := s) i1 h1 K (by omega) st
        have L2 := f2.k14 L
        obtain ⟨W3, c3, L3, f3⟩ := kc_move14 (nx := nx) (s := s) i2 h2 L2 (by omega) st
        have K3 := f3.k13 K2
        obtain ⟨W4, t, f4⟩ := ih (k + 1) W3 _ _ (left - st) (imin near (dq (pq_mv S1 p st) (pq_mv S2 q st))) (.long st) (.retAddr 0) (by omega) K3 L3 (pq_mv_le S1 p st hp) (pq_mv_le S2 q st hq)
        refine ⟨W4, ?_, (f2.P.tr f3.P).tr f4⟩
        have b1 := kc_toBend13 (g := g) (nx := nx) (s := s) i1 h1 K
        have b2 := kc_toBend14 (g := g) (nx := nx) (s := s) i2 h2 L
        have cd := kc_distance (g := g) (nx := nx) (s := s) K3 L3
        refine jx_T.step (pc' := 13) (st' := [_]) rfl rfl ?_
        refine jx_T.step (pc' := 15) (st' := [_, _]) rfl rfl ?_
        rw [rf_lit 18]
        refine cl.bc rfl (jx_br_ge _ _) (fun zq => absurd zq (nI_ge (by omega) (by omega))) (fun _ => ?_)
        refine jx_T.step (pc' := 19) (st' := [_]) rfl rfl ?_
        refine jx_T.step (pc' := 20) (st' := [_, _]) rfl rfl ?_
        refine jx_T.step (pc' := 21) (st' := [_]) rfl rfl ?_
        refine cl.br rfl (jx_br_le _ _) (fun zq => absurd zq (Int32.not_le.mpr ((lg_cmp_gt0 _ _).mpr z))) (fun _ => ?_)
        refine jx_T.step (pc' := 25) (st' := [_]) rfl rfl ?_
        refine jx_T.step (pc' := 26) (st' := [_, _]) rfl rfl ?_
        refine cl.get 10 (by decide) rfl (cw_c10 _) rfl ?_
        refine cl.v0I (hc_fix 13 (by decide) (cw_c13 _)) rfl (by decide) rfl ⟨Nat.le_of_ble_eq_true rfl, rfl⟩ (Nat.le_of_ble_eq_true rfl) (b1) ?_
        refine jx_T.step (pc' := 33) (st' := [_, _, _]) rfl rfl ?_
        refine cl.get 10 (by decide) rfl (cw_c10 _) rfl ?_
        refine cl.v0I (hc_fix 14 (by decide) (cw_c14 _)) rfl (by decide) rfl ⟨Nat.le_of_ble_eq_true rfl, rfl⟩ (Nat.le_of_ble_eq_true rfl) (b2) ?_
        refine cl.s2I rfl (by decide) rfl (Nat.le_of_ble_eq_true rfl) (Nat.le_of_ble_eq_true rfl) (kc_minL _ _ _) ?_
        refine cl.s2I rfl (by decide) rfl (Nat.le_of_ble_eq_true rfl) (Nat.le_of_ble_eq_true rfl) (kc_minL _ _ _) ?_
        show jx_T 21 45 _ [.long (ld_s S1 S2 p q left)] _ _ _
        rw [← est]
        refine jx_T.step (pc' := 47) (ls' := [_, _, _, _, _, _, _, _, _]) (st' := []) rfl rfl ?_
        refine jx_T.step (pc' := 48) (st' := [_]) rfl rfl ?_
        refine cl.get 10 (by decide) rfl (cw_c10 _) rfl ?_
        refine jx_T.step (pc' := 53) (st' := [_, _]) rfl rfl ?_
        refine cl.v1V (hc_fix 13 (by decide) (cw_c13 _)) rfl (by decide) rfl ⟨Nat.le_of_ble_eq_true rfl, rfl⟩ (Nat.le_of_ble_eq_true rfl) (c2) ?_
        refine jx_T.step (pc' := 57) (st' := [_]) rfl rfl ?_
        refine cl.get 10 (by decide) rfl (cw_c10 _) rfl ?_
        refine jx_T.step (pc' := 62) (st' := [_, _]) rfl rfl ?_
        refine cl.v1V (hc_fix 14 (by decide) (cw_c14 _)) rfl (by decide) rfl ⟨Nat.le_of_ble_eq_true rfl, rfl⟩ (Nat.le_of_ble_eq_true rfl) (c3) ?_
        refine jx_T.step (pc' := 66) (st' := [_]) rfl rfl ?_
        refine jx_T.step (pc' := 68) (st' := [_, _]) rfl rfl ?_
        refine jx_T.step (pc' := 69) (st' := [_]) rfl rfl ?_
        refine jx_T.step (pc' := 70) (ls' := [_, _, _, _, _, _, _, _, _]) (st' := []) rfl rfl ?_
        refine jx_T.step (pc' := 72) (st' := [_]) rfl rfl ?_
        refine jx_T.step (pc' := 73) (st' := [_, _]) rfl rfl ?_
        refine cl.v0I (hc_fix 10 (by decide) (cw_c10 _)) rfl (by decide) rfl ⟨Nat.le_of_ble_eq_true rfl, rfl⟩ (Nat.le_of_ble_eq_true rfl) (cd) ?_
        refine cl.s2I rfl (by decide) rfl (Nat.le_of_ble_eq_true rfl) (Nat.le_of_ble_eq_true rfl) (kc_min _ _ _) ?_
        show jx_T 21 79 _ [.int (imin near (dq (pq_mv S1 p st) (pq_mv S2 q st)))] _ _ _
        refine jx_T.step (pc' := 81) (ls' := [_, _, _, _, _, _, _, _, _]) (st' := []) rfl rfl ?_
        refine jx_T.step (pc' := 84) (ls' := [_, _, _, _, _, _, _, _, _]) (st' := []) rfl rfl ?_
        refine jx_T.step (pc' := 11) (st' := []) rfl rfl ?_
        rw [nI_1]
        exact t
      · rw [if_neg z]
        refine ⟨W1, ?_, kr_p.rf⟩
        refine jx_T.step (pc' := 13) (st' := [_]) rfl rfl ?_
        refine jx_T.step (pc' := 15) (st' := [_, _]) rfl rfl ?_
        rw [rf_lit 18]
        refine cl.bc rfl (jx_br_ge _ _) (fun zq => absurd zq (nI_ge (by omega) (by omega))) (fun _ => ?_)
        refine jx_T.step (pc' := 19) (st' := [_]) rfl rfl ?_
        refine jx_T.step (pc' := 20) (st' := [_, _]) rfl rfl ?_
        refine jx_T.step (pc' := 21) (st' := [_]) rfl rfl ?_
        refine cl.br rfl (jx_br_le _ _) (fun _ => ?_) (fun zq => absurd (Int32.not_lt.mp (fun y => z ((lg_cmp_gt0 _ _).mp y))) zq)
        refine jx_T.step (pc' := 89) (st' := [_]) rfl rfl ?_
        exact jx_T.ret rfl rfl
  obtain ⟨W2, t, f⟩ := loop 18 0 W p q heat (dq p q) (.retAddr 0) (.retAddr 0) (by omega) K L hp hq
  refine ⟨W2, ?_, f⟩
  show jx_T 21 0 [.ref 10, .long heat, .retAddr 0, .retAddr 0, .retAddr 0, .retAddr 0, .retAddr 0, .retAddr 0, .retAddr 0] [] _ _ _
  refine jx_T.step (pc' := 1) (st' := [_]) rfl rfl ?_
  refine jx_T.step (pc' := 2) (ls' := [_, _, _, _, _, _, _, _, _]) (st' := []) rfl rfl ?_
  refine jx_T.step (pc' := 3) (st' := [_]) rfl rfl ?_
  refine cl.v0I (hc_fix 10 (by decide) (cw_c10 _)) rfl (by decide) rfl ⟨Nat.le_of_ble_eq_true rfl, rfl⟩ (Nat.le_of_ble_eq_true rfl) (kc_distance K L) ?_
  refine jx_T.step (pc' := 8) (ls' := [_, _, _, _, _, _, _, _, _]) (st' := []) rfl rfl ?_
  refine jx_T.step (pc' := 9) (st' := [_]) rfl rfl ?_
  refine jx_T.step (pc' := 11) (ls' := [_, _, _, _, _, _, _, _, _]) (st' := []) rfl rfl ?_
  exact t
theorem kc_fillL (W : cw) : ∃ W2, jx_T 214 0 (jx_ent 214 [.ref 11, .long 0]) [] (hc W g nx s) none (hc W2 g nx s) ∧ kj_f W W2 ∧ (W2.1 = W.1 ∧ W2.2.2 = W.2.2) ∧ ∀ k, k < 12 → W2.2.1 11 k = 0 := by
  have loop : ∀ d k (W1 : cw), k + d = 12 → kj_f W W1 → (W1.1 = W.1 ∧ W1.2.2 = W.2.2) → (∀ j, j < k → W1.2.1 11 j = 0) → ∃ W2, jx_T 214 6 [.ref 11, .long 0, .retAddr 0, .int (nI k), .int (nI 12)] [] (hc W1 g nx s) none (hc W2 g nx s) ∧ kj_f W W2 ∧ (W2.1 = W.1 ∧ W2.2.2 = W.2.2) ∧ ∀ k, k < 12 → W2.2.1 11 k = 0 := by
    intro d
    induction d with
    | zero =>
      intro k W1 hk f e h
      obtain rfl : k = 12 := by omega
      refine ⟨W1, ?_, f, e, h⟩
      refine jx_T.step (pc' := 7) (st' := [_]) rfl rfl ?_
      refine jx_T.step (pc' := 9) (st' := [_, _]) rfl rfl ?_
      refine cl.bc rfl (jx_br_ge _ _) (fun _ => ?_) (fun zq => absurd (Int32.le_refl _) zq)
      exact jx_T.ret rfl rfl
    | succ d ih =>
      intro k W1 hk f e h
      obtain ⟨W2, t, r⟩ := ih (k + 1) (cw_B W1 11 (vp_updL (W1.2.1 11) k 0)) (by omega) (f.tr ⟨fun _ _ => rfl, fun j hj => cw_Bn _ _ _ hj, fun _ _ _ _ _ => rfl, fun _ _ _ _ _ => rfl, rfl⟩) e (fun j hj => by
        rw [cw_Be]
        unfold vp_updL
        by_cases y : j = k
        · rw [if_pos y]
        · rw [if_neg y]
          exact h j (by omega))
      refine ⟨W2, ?_, r⟩
      refine jx_T.step (pc' := 7) (st' := [_]) rfl rfl ?_
      refine jx_T.step (pc' := 9) (st' := [_, _]) rfl rfl ?_
      refine cl.bc rfl (jx_br_ge _ _) (fun zq => absurd zq (nI_ge (by omega) (by omega))) (fun _ => ?_)
      refine jx_T.step (pc' := 13) (st' := [_]) rfl rfl ?_
      refine jx_T.step (pc' := 14) (st' := [_, _]) rfl rfl ?_
      refine jx_T.step (pc' := 15) (st' := [_, _, _]) rfl rfl ?_
      refine cl.last 11 (by decide) rfl (cw_c11 _) (cw_s11 _) (rf_ix (by omega) (by decide)) ?_
      rw [nI_clamp (by omega)]
      refine jx_T.step (pc' := 19) (ls' := [_, _, _, _, _]) (st' := []) rfl rfl ?_
      refine jx_T.step (pc' := 6) (st' := []) rfl rfl ?_
      rw [nI_1]
      exact t
  obtain ⟨W2, t, r⟩ := loop 12 0 W (by omega) kj_f.rf ⟨rfl, rfl⟩ (fun j hj => absurd hj (by omega))
  refine ⟨W2, ?_, r⟩
  show jx_T 214 0 [.ref 11, .long 0, .retAddr 0, .retAddr 0, .retAddr 0] [] _ _ _
  refine jx_T.step (pc' := 1) (st' := [_]) rfl rfl ?_
  refine jx_T.step (pc' := 2) (ls' := [_, _, _, _, _]) (st' := []) rfl rfl ?_
  refine jx_T.step (pc' := 3) (st' := [_]) rfl rfl ?_
  refine cl.alen 11 (by decide) rfl (cw_c11 _) (Or.inl (by decide)) ?_
  refine jx_T.step (pc' := 6) (ls' := [_, _, _, _, _]) (st' := []) rfl rfl ?_
  exact t
end
