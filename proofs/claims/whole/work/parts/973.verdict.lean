/-! the works: hear, verdict, closest -/
/-- the meetings from m on, d to go: ruling, which errs, used, distances -/
def hr_lp (T : tv) (X : nev) : Nat → Nat → (Nat → Int64) → (Nat → Int32) → Int32 × Int32 × (Nat → Int64) × (Nat → Int32)
  | 0, _, u, ds => (0, -1, u, ds)
  | d + 1, m, u, ds => if hm_1 T X m u then (1, nI m, u, ds) else if hm_d T X m u < 1000 * T.1 then (2, nI m, jd_g u (hm_a X m) (hm_c X m) (hm_h X m), upd ds m (hm_d T X m u)) else hr_lp T X d (m + 1) (jd_g u (hm_a X m) (hm_c X m) (hm_h X m)) (upd ds m (hm_d T X m u))
def hr_at (T : tv) (X : nev) (ds : Nat → Int32) : Int32 × Int32 × (Nat → Int64) × (Nat → Int32) := hr_lp T X X.1 0 (fun _ => 0) ds
section
variable {W : cw} {g : Nat → Option jx_E} {nx s x y : Nat} {T : tv} {X : nev}
theorem kc_hear (W : cw) (im : im_sta g x T) (ok : tv_ok T) (iy : im_net g y X) (hX : X.1 ≤ 20) (hm : hm_ok T X) : ∃ W2, jx_T 19 0 (jx_ent 19 [.ref 10, .ref x, .ref y]) [] (hc W g nx s) none (hc W2 g nx s) ∧ kj_f W W2 ∧ W2.2.2.1 10 4 = (hr_at T X (W.1 12)).1 ∧ W2.2.2.1 10 5 = (hr_at T X (W.1 12)).2.1 ∧ W2.2.2.2.1 10 6 = (cl_s T (hr_at T X (W.1 12)).2.2.1 T.2.1).1 ∧ W2.2.2.2.1 10 7 = (cl_s T (hr_at T X (W.1 12)).2.2.1 T.2.1).2 ∧ ∀ k, k < 20 → W2.1 12 k = (hr_at T X (W.1 12)).2.2.2 k := by
  have iy0 := iy
  obtain ⟨b1, b2, b3, n0, -⟩ := iy
  have fin : ∀ (W1 : cw) (u : Nat → Int64) (ds : Nat → Int32) (r e : Int32) (u3 : Value), kj_f W W1 → (∀ k, k < 12 → W1.2.1 11 k = u k) → (∀ k, k < 20 → W1.1 12 k = ds k) → W1.2.2.1 10 4 = r → W1.2.2.1 10 5 = e → ∃ W2, jx_T 19 70 [.ref 10, .ref x, .ref y, u3] [] (hc W1 g nx s) none (hc W2 g nx s) ∧ kj_f W W2 ∧ W2.2.2.1 10 4 = r ∧ W2.2.2.1 10 5 = e ∧ W2.2.2.2.1 10 6 = (cl_s T u T.2.1).1 ∧ W2.2.2.2.1 10 7 = (cl_s T u T.2.1).2 ∧ ∀ k, k < 20 → W2.1 12 k = ds k := by
    intro W1 u ds r e u3 f hu hd er ee
    obtain ⟨W2, c, f2, a1, a2, a3, a4⟩ := kc_countLeft (nx := nx) (s := s) W1 im ok u hu
    refine ⟨W2, ?_, f.tr f2, by rw [a2]; exact er, by rw [a2]; exact ee, a3, a4, fun k hk => by rw [a1]; exact hd k hk⟩
    refine jx_T.step (pc' := 71) (st' := [_]) rfl rfl ?_
    refine jx_T.step (pc' := 72) (st' := [_, _]) rfl rfl ?_
    refine cl.v1V (hc_fix 10 (by decide) (cw_c10 _)) rfl (by decide) rfl ⟨Nat.le_of_ble_eq_true rfl, rfl⟩ (Nat.le_of_ble_eq_true rfl) (c) ?_
    exact jx_T.ret rfl rfl
  have loop : ∀ d m (W1 : cw) (u : Nat → Int64) (ds : Nat → Int32), m + d = X.1 → kj_f W W1 → (∀ k, k < 12 → W1.2.1 11 k = u k) → (∀ k, k < 20 → W1.1 12 k = ds k) → W1.2.2.1 10 4 = 0 → W1.2.2.1 10 5 = -1 → ∃ W2, jx_T 19 20 [.ref 10, .ref x, .ref y, .int (nI m)] [] (hc W1 g nx s) none (hc W2 g nx s) ∧ kj_f W W2 ∧ W2.2.2.1 10 4 = (hr_lp T X d m u ds).1 ∧ W2.2.2.1 10 5 = (hr_lp T X d m u ds).2.1 ∧ W2.2.2.2.1 10 6 = (cl_s T (hr_lp T X d m u ds).2.2.1 T.2.1).1 ∧ W2.2.2.2.1 10 7 = (cl_s T (hr_lp T X d m u ds).2.2.1 T.2.1).2 ∧ ∀ k, k < 20 → W2.1 12 k = (hr_lp T X d m u ds).2.2.2 k := by
    intro d
    induction d with
    | zero =>
      intro m W1 u ds hmd f hu hd er ee
      obtain rfl : m = X.1 := by omega
      obtain ⟨W2, t, r⟩ := fin W1 u ds 0 (-1) (.int (nI X.1)) f hu hd er ee
      refine ⟨W2, ?_, r⟩
      refine jx_T.step (pc' := 21) (st' := [_]) rfl rfl ?_
      refine jx_T.step (pc' := 22) (st' := [_, _]) rfl rfl ?_
      refine cl.geti (n0).1 (n0).2 rfl rfl ?_
      refine cl.bc rfl (jx_br_ge _ _) (fun _ => ?_) (fun zq => absurd (Int32.le_refl _) zq)
      exact t
    | succ d ih =>
      intro m W1 u ds hmd f hu hd er ee
      obtain ⟨W2, c2, f2, i2, q2, q6⟩ := kc_hearM (nx := nx) (s := s) im ok iy0 hX hm m (by omega) u hu
      have step : ∀ {v : Option Value} {h2 : jx_H}, (∀ r : Int32, r = (if hm_1 T X m u then 1 else if hm_d T X m u < 1000 * T.1 then 2 else 0) → jx_T 19 56 [.ref 10, .ref x, .ref y, .int (nI m)] [.int r] (hc (cw_I W2 10 4 r) g nx s) v h2) → jx_T 19 20 [.ref 10, .ref x, .ref y, .int (nI m)] [] (hc W1 g nx s) v h2 := by
        intro v h2 t
        have a4 : ∀ r, (cw_I W2 10 4 r).2.2.1 10 4 = r := fun _ => rfl
        refine jx_T.step (pc' := 21) (st' := [_]) rfl rfl ?_
        refine jx_T.step (pc' := 22) (st' := [_, _]) rfl rfl ?_
        refine cl.geti (n0).1 (n0).2 rfl rfl ?_
        refine cl.bc rfl (jx_br_ge _ _) (fun zq => absurd zq (nI_ge (by omega) (by omega))) (fun _ => ?_)
        refine jx_T.step (pc' := 29) (st' := [_]) rfl rfl ?_
        refine jx_T.step (pc' := 31) (st' := [_, _]) rfl rfl ?_
        rw [rf_lit 20]
        refine cl.bc rfl (jx_br_ge _ _) (fun zq => absurd zq (nI_ge (by omega) (by omega))) (fun _ => ?_)
        refine jx_T.step (pc' := 35) (st' := [_]) rfl rfl ?_
        refine cl.get 10 (by decide) rfl (cw_c10 _) rfl ?_
        rw [er]
        refine cl.brn rfl (fun y => absurd rfl y) (fun _ => ?_)
        refine jx_T.step (pc' := 42) (st' := [_]) rfl rfl ?_
        refine jx_T.step (pc' := 43) (st' := [_, _]) rfl rfl ?_
        refine jx_T.step (pc' := 44) (st' := [_, _, _]) rfl rfl ?_
        refine jx_T.step (pc' := 45) (st' := [_, _, _, _]) rfl rfl ?_
        refine jx_T.step (pc' := 46) (st' := [_, _, _, _, _]) rfl rfl ?_
        refine cl.v3I (hc_fix 10 (by decide) (cw_c10 _)) rfl (by decide) rfl ⟨Nat.le_of_ble_eq_true rfl, rfl⟩ (Nat.le_of_ble_eq_true rfl) (c2) ?_
        refine cl.put 10 (by decide) rfl (cw_c10 _) (Nat.le_of_ble_eq_true rfl) rfl (cw_f10_4 _ _) ?_
        refine jx_T.step (pc' := 53) (st' := [_]) rfl rfl ?_
        refine cl.get 10 (by decide) rfl (cw_c10 _) rfl ?_
        rw [a4]
        exact t _ rfl
      have out : ∀ (r : Int32) (u2 : Nat → Int64) (d2 : Nat → Int32), ¬ r = 0 → r = (if hm_1 T X m u then 1 else if hm_d T X m u < 1000 * T.1 then 2 else 0) → (∀ k, k < 12 → W2.2.1 11 k = u2 k) → (∀ k, k < 20 → W2.1 12 k = d2 k) → ∃ W4, jx_T 19 20 [.ref 10, .ref x, .ref y, .int (nI m)] [] (hc W1 g nx s) none (hc W4 g nx s) ∧ kj_f W W4 ∧ W4.2.2.1 10 4 = r ∧ W4.2.2.1 10 5 = nI m ∧ W4.2.2.2.1 10 6 = (cl_s T u2 T.2.1).1 ∧ W4.2.2.2.1 10 7 = (cl_s T u2 T.2.1).2 ∧ ∀ k, k < 20 → W4.1 12 k = d2 k := by
        intro r u2 d2 hr0 hr hu2 hd2
        obtain ⟨W4, t, rr⟩ := fin (cw_I (cw_I W2 10 4 r) 10 5 (nI m)) u2 d2 r (nI m) (.int (nI (m + 1))) ((f.tr f2).tr (kj_f.I.tr kj_f.I)) hu2 hd2 rfl rfl
        refine ⟨W4, step (fun r2 hr2 => ?_), rr⟩
        rw [← hr] at hr2
        subst hr2
        have b4 : ∀ v, (cw_I (cw_I W2 10 4 r2) 10 5 v).2.2.1 10 4 = r2 := fun _ => rfl
        refine cl.br rfl (jx_br_eq _ _) (fun zq => absurd zq (hr0)) (fun _ => ?_)
        refine jx_T.step (pc' := 60) (st' := [_]) rfl rfl ?_
        refine jx_T.step (pc' := 61) (st' := [_, _]) rfl rfl ?_
        refine cl.put 10 (by decide) rfl (cw_c10 _) (Nat.le_of_ble_eq_true rfl) rfl (cw_f10_5 _ _) ?_
        refine jx_T.step (pc' := 67) (ls' := [_, _, _, _]) (st' := []) rfl rfl ?_
        refine jx_T.step (pc' := 20) (st' := []) rfl rfl ?_
        rw [nI_1]
        refine jx_T.step (pc' := 21) (st' := [_]) rfl rfl ?_
        refine jx_T.step (pc' := 22) (st' := [_, _]) rfl rfl ?_
        refine cl.geti (n0).1 (n0).2 rfl rfl ?_
        by_cases z1 : X.1 ≤ m + 1
        · refine cl.bc rfl (jx_br_ge _ _) (fun _ => ?_) (fun zq => absurd (nI_le z1 (by omega)) zq)
          exact t
        · refine cl.bc rfl (jx_br_ge _ _) (fun zq => absurd zq (nI_ge (by omega) (by omega))) (fun _ => ?_)
          refine jx_T.step (pc' := 29) (st' := [_]) rfl rfl ?_
          refine jx_T.step (pc' := 31) (st' := [_, _]) rfl rfl ?_
          rw [rf_lit 20]
          refine cl.bc rfl (jx_br_ge _ _) (fun zq => absurd zq (nI_ge (by omega) (by omega))) (fun _ => ?_)
          refine jx_T.step (pc' := 35) (st' := [_]) rfl rfl ?_
          refine cl.get 10 (by decide) rfl (cw_c10 _) rfl ?_
          rw [b4]
          refine cl.brn rfl (fun _ => ?_) (fun zq => absurd zq (hr0))
          exact t
      unfold hr_lp
      by_cases z : hm_1 T X m u
      · rw [if_pos z]
        have eW := q6 z
        exact out 1 u ds (by decide) (by rw [if_pos z]) (fun k hk => by rw [eW]; exact hu k hk) (fun k hk => by rw [eW]; exact hd k hk)
      · rw [if_neg z]
        obtain ⟨q3, q4, q5⟩ := q2 z
        have hd2 : ∀ k, k < 20 → W2.1 12 k = upd ds m (hm_d T X m u) k := fun k hk => by
          unfold upd
          by_cases e : k = m
          · rw [if_pos e, e]
            exact q4
          · rw [if_neg e, q5 k e]
            exact hd k hk
        by_cases w : hm_d T X m u < 1000 * T.1
        · rw [if_pos w]
          exact out 2 _ _ (by decide) (by rw [if_neg z, if_pos w]) q3 hd2
        · rw [if_neg w]
          obtain ⟨W3, t, rr⟩ := ih (m + 1) (cw_I W2 10 4 0) _ _ (by omega) ((f.tr f2).tr kj_f.I) q3 hd2 rfl ((i2 5).trans ee)
          refine ⟨W3, step (fun r2 hr2 => ?_), rr⟩
          rw [if_neg z, if_neg w] at hr2
          subst hr2
          refine cl.br rfl (jx_br_eq _ _) (fun _ => ?_) (fun zq => absurd (rfl) zq)
          refine jx_T.step (pc' := 67) (ls' := [_, _, _, _]) (st' := []) rfl rfl ?_
          refine jx_T.step (pc' := 20) (st' := []) rfl rfl ?_
          rw [nI_1]
          exact t
  obtain ⟨W1, c1, f1, e1, h1⟩ := kc_fillL (g := g) (nx := nx) (s := s) (cw_I (cw_I W 10 4 0) 10 5 (-1))
  obtain ⟨W2, t, r⟩ := loop X.1 0 W1 (fun _ => 0) (W.1 12) (by omega) ((kj_f.I.tr kj_f.I).tr f1) h1 (fun k hk => by rw [e1.1]; rfl) (by rw [e1.2]; rfl) (by rw [e1.2]; rfl)
  refine ⟨W2, ?_, r⟩
  show jx_T 19 0 [.ref 10, .ref x, .ref y, .retAddr 0] [] _ _ _
  refine jx_T.step (pc' := 1) (st' := [_]) rfl rfl ?_
  refine jx_T.step (pc' := 2) (st' := [_, _]) rfl rfl ?_
  refine cl.put 10 (by decide) rfl (cw_c10 _) (Nat.le_of_ble_eq_true rfl) rfl (cw_f10_4 _ _) ?_
  refine jx_T.step (pc' := 6) (st' := [_]) rfl rfl ?_
  refine jx_T.step (pc' := 7) (st' := [_, _]) rfl rfl ?_
  refine cl.put 10 (by decide) rfl (cw_c10 _) (Nat.le_of_ble_eq_true rfl) rfl (cw_f10_5 _ _) ?_
  refine jx_T.step (pc' := 11) (st' := [_]) rfl rfl ?_
  refine cl.get 10 (by decide) rfl (cw_c10 _) rfl ?_
  refine jx_T.step (pc' := 15) (st' := [_, _]) rfl rfl ?_
  refine cl.s2V rfl (by decide) rfl (Nat.le_of_ble_eq_true rfl) (Nat.le_of_ble_eq_true rfl) (c1) ?_
  refine jx_T.step (pc' := 19) (st' := [_]) rfl rfl ?_
  refine jx_T.step (pc' := 20) (ls' := [_, _, _, _]) (st' := []) rfl rfl ?_
  exact t
/-- what verdict leaves -/
def vt_f (q : Int32 × Int32 × (Nat → Int64) × (Nat → Int32)) (c : Int64 × Int64) (n : Nat) (k : Nat) : Int64 := if k = 0 then q.2.1.toInt64 else if k = 1 then (if q.1 = 0 then c.1 else -1) else if k = 2 then (if q.1 = 0 then c.2 else -1) else (nI n).toInt64
/-- what a verdict keeps -/
def kv_f (W W2 : cw) : Prop := (∀ y, W2.2.2.1 1 y = W.2.2.1 1 y) ∧ W2.2.2.2.2.1 = W.2.2.2.2.1
theorem kc_verdict_no (k : Int32) (hk : ¬ (0 ≤ k.toInt ∧ k.toInt ≤ 3)) : jx_T 120 0 (jx_ent 120 [.ref 1, .int k]) [] (hc W g nx s) (some (.int (-1))) (hc W g nx s) := by
  show jx_T 120 0 [.ref 1, .int k] [] _ _ _
  refine jx_T.step (pc' := 1) (st' := [_]) rfl rfl ?_
  refine jx_T.step (pc' := 2) (st' := [_, _]) rfl rfl ?_
  refine jx_T.step (pc' := 3) (st' := [_, _, _]) rfl rfl ?_
  refine cl.s3I rfl (by decide) rfl (Nat.le_of_ble_eq_true rfl) (Nat.le_of_ble_eq_true rfl) (kc_within _ _ _ _) ?_
  refine cl.brn rfl (fun zq => absurd ((rf_o_0 _).mpr hk) zq) (fun _ => ?_)
  refine jx_T.step (pc' := 10) (st' := [_]) rfl rfl ?_
  exact jx_T.ret rfl rfl
theorem kc_verdict (n : cl_now W g x T) (k : Nat) (hk : k < 4) (hX : (T.2.2.2.2.1 k).1 ≤ 20) (hm : hm_ok T (T.2.2.2.2.1 k)) : ∃ W2, jx_T 120 0 (jx_ent 120 [.ref 1, .int (nI k)]) [] (hc W g nx s) (some (.int (hr_at T (T.2.2.2.2.1 k) (W.1 12)).1)) (hc W2 g nx s) ∧ kv_f W W2 ∧ ∀ j, j < 4 → W2.2.1 34 j = vt_f (hr_at T (T.2.2.2.2.1 k) (W.1 12)) (cl_s T (hr_at T (T.2.2.2.2.1 k) (W.1 12)).2.2.1 T.2.1) (T.2.2.2.2.1 k).1 j := by
  have n0 := n
  have ok := n.2.2
  obtain ⟨s1, s2, s3, s4, f1, f2, f3, p1, p2, p3, p4, p5, p6, p7, -⟩ := n0.2.1
  obtain ⟨y, ey, iy⟩ := p7 k hk
  have cn0 := kc_now nx s n
  obtain ⟨W1, c1, g1, a4, a5, a6, a7, -⟩ := kc_hear (nx := nx) (s := s) W n.2.1 ok iy hX hm
  have n1 := n.Q g1.Q
  obtain ⟨b1, b2, b3, i0, -⟩ := iy
  generalize hr_at T (T.2.2.2.2.1 k) (W.1 12) = q at *
  generalize cl_s T q.2.2.1 T.2.1 = c at *
  obtain ⟨W2, e2⟩ : ∃ W2, W2 = cw_B W1 34 (vp_updL (W1.2.1 34) 0 q.2.1.toInt64) := ⟨_, rfl⟩
  obtain ⟨W3, e3⟩ : ∃ W3, W3 = cw_B W2 34 (vp_updL (W2.2.1 34) 1 (if q.1 = 0 then c.1 else -1)) := ⟨_, rfl⟩
  obtain ⟨W4, e4⟩ : ∃ W4, W4 = cw_B W3 34 (vp_updL (W3.2.1 34) 2 (if q.1 = 0 then c.2 else -1)) := ⟨_, rfl⟩
  obtain ⟨W5, e5⟩ : ∃ W5, W5 = cw_B W4 34 (vp_updL (W4.2.1 34) 3 ((nI (T.2.2.2.2.1 k).1).toInt64)) := ⟨_, rfl⟩
  have r2 : W2.2.2 = W1.2.2 := by rw [e2]; rfl
  have r3 : W3.2.2 = W1.2.2 := by rw [e3]; exact r2
  have r4 : W4.2.2 = W1.2.2 := by rw [e4]; exact r3
  have r5 : W5.2.2 = W1.2.2 := by rw [e5]; exact r4
  have s2 : W2.2.1 34 = vp_updL (W1.2.1 34) 0 q.2.1.toInt64 := by rw [e2]; exact cw_Be _ _ _
  have s3 : W3.2.1 34 = vp_updL (W2.2.1 34) 1 (if q.1 = 0 then c.1 else -1) := by rw [e3]; exact cw_Be _ _ _
  have s4 : W4.2.1 34 = vp_updL (W3.2.1 34) 2 (if q.1 = 0 then c.2 else -1) := by rw [e4]; exact cw_Be _ _ _
  have s5 : W5.2.1 34 = vp_updL (W4.2.1 34) 3 ((nI (T.2.2.2.2.1 k).1).toInt64) := by rw [e5]; exact cw_Be _ _ _
  have cn4 : jx_T 91 0 (jx_ent 91 [.ref 1]) [] (hc W4 g nx s) (some (.ref x)) (hc W4 g nx s) := kc_now nx s ⟨by obtain ⟨B, D, h⟩ := n1.1; rw [r4]; exact ⟨B, D, h⟩, n1.2⟩
  refine ⟨W5, ?_, ⟨fun y => by rw [r5]; exact g1.2.2.1 1 y (by decide) (by decide) (by decide), by rw [r5]; exact g1.2.2.2.2⟩, fun j hj => ?_⟩
  · show jx_T 120 0 [.ref 1, .int (nI k)] [] _ _ _
    have t3 : ∀ z : Int64, z = (if q.1 = 0 then c.2 else -1) → jx_T 120 102 [.ref 1, .int (nI k)] [.long z, .int 2, .ref 34] (hc W3 g nx s) (some (.int q.1)) (hc W5 g nx s) := by
      intro z hz
      rw [hz]
      refine cl.last 34 (by decide) rfl (cw_c34 _) (cw_s34 _) (by decide) ?_
      rw [show ((2 : Int32)).toNatClampNeg = 2 from rfl, ← e4]
      refine jx_T.step (pc' := 104) (st' := [_]) rfl rfl ?_
      refine cl.get 1 (by decide) rfl (cw_c1 _) rfl ?_
      refine jx_T.step (pc' := 108) (st' := [_, _]) rfl rfl ?_
      refine jx_T.step (pc' := 109) (st' := [_, _, _]) rfl rfl ?_
      refine cl.v0I (hc_fix 1 (by decide) (cw_c1 _)) rfl (by decide) rfl ⟨Nat.le_of_ble_eq_true rfl, rfl⟩ (Nat.le_of_ble_eq_true rfl) (cn4) ?_
      refine cl.geti (p1).1 (p1).2 rfl rfl ?_
      refine jx_T.step (pc' := 116) (st' := [_, _, _, _]) rfl rfl ?_
      refine cl.aaldi (p6).1 (p6).2 rfl (by decide) (rf_ix (by omega) (by decide)) ?_
      rw [nI_clamp (by omega), ey]
      refine cl.geti (i0).1 (i0).2 rfl rfl ?_
      refine jx_T.step (pc' := 121) (st' := [_, _, _]) rfl rfl ?_
      refine cl.last 34 (by decide) rfl (cw_c34 _) (cw_s34 _) (by decide) ?_
      rw [show ((3 : Int32)).toNatClampNeg = 3 from rfl, ← e5]
      refine jx_T.step (pc' := 123) (st' := [_]) rfl rfl ?_
      refine cl.get 1 (by decide) rfl (cw_c1 _) rfl ?_
      refine cl.get 10 (by decide) rfl (cw_c10 _) rfl ?_
      rw [r5, a4]
      exact jx_T.ret rfl rfl
    have t2 : ∀ z : Int64, z = (if q.1 = 0 then c.1 else -1) → jx_T 120 73 [.ref 1, .int (nI k)] [.long z, .int 1, .ref 34] (hc W2 g nx s) (some (.int q.1)) (hc W5 g nx s) := by
      intro z hz
      rw [hz]
      refine cl.last 34 (by decide) rfl (cw_c34 _) (cw_s34 _) (by decide) ?_
      rw [show ((1 : Int32)).toNatClampNeg = 1 from rfl, ← e3]
      refine jx_T.step (pc' := 75) (st' := [_]) rfl rfl ?_
      refine cl.get 1 (by decide) rfl (cw_c1 _) rfl ?_
      refine jx_T.step (pc' := 79) (st' := [_, _]) rfl rfl ?_
      refine jx_T.step (pc' := 80) (st' := [_, _, _]) rfl rfl ?_
      refine cl.get 1 (by decide) rfl (cw_c1 _) rfl ?_
      refine cl.get 10 (by decide) rfl (cw_c10 _) rfl ?_
      rw [r3, a4]
      by_cases z : q.1 = 0
      · refine cl.brn rfl (fun y => absurd z y) (fun _ => ?_)
        refine jx_T.step (pc' := 90) (st' := [_, _, _]) rfl rfl ?_
        refine cl.get 1 (by decide) rfl (cw_c1 _) rfl ?_
        refine cl.get 10 (by decide) rfl (cw_c10 _) rfl ?_
        rw [r3, a7]
        refine jx_T.step (pc' := 102) (st' := [_, _, _]) rfl rfl ?_
        exact t3 _ (by rw [if_pos z])
      · refine cl.brn rfl (fun _ => ?_) (fun y => absurd y z)
        refine jx_T.step (pc' := 102) (st' := [_, _, _]) rfl rfl ?_
        exact t3 _ (by rw [if_neg z])
    refine jx_T.step (pc' := 1) (st' := [_]) rfl rfl ?_
    refine jx_T.step (pc' := 2) (st' := [_, _]) rfl rfl ?_
    refine jx_T.step (pc' := 3) (st' := [_, _, _]) rfl rfl ?_
    refine cl.s3I rfl (by decide) rfl (Nat.le_of_ble_eq_true rfl) (Nat.le_of_ble_eq_true rfl) (kc_within _ _ _ _) ?_
    refine cl.brn rfl (fun _ => ?_) (fun zq => absurd zq (fun q => (rf_o_0 _).mp q (rf_k4 hk)))
    refine jx_T.step (pc' := 12) (st' := [_]) rfl rfl ?_
    refine cl.get 1 (by decide) rfl (cw_c1 _) rfl ?_
    refine jx_T.step (pc' := 16) (st' := [_, _]) rfl rfl ?_
    refine cl.v0I (hc_fix 1 (by decide) (cw_c1 _)) rfl (by decide) rfl ⟨Nat.le_of_ble_eq_true rfl, rfl⟩ (Nat.le_of_ble_eq_true rfl) (cn0) ?_
    refine jx_T.step (pc' := 20) (st' := [_, _, _]) rfl rfl ?_
    refine cl.v0I (hc_fix 1 (by decide) (cw_c1 _)) rfl (by decide) rfl ⟨Nat.le_of_ble_eq_true rfl, rfl⟩ (Nat.le_of_ble_eq_true rfl) (cn0) ?_
    refine cl.geti (p1).1 (p1).2 rfl rfl ?_
    refine jx_T.step (pc' := 27) (st' := [_, _, _, _]) rfl rfl ?_
    refine cl.aaldi (p6).1 (p6).2 rfl (by decide) (rf_ix (by omega) (by decide)) ?_
    rw [nI_clamp (by omega), ey]
    refine cl.v2V (hc_fix 10 (by decide) (cw_c10 _)) rfl (by decide) rfl ⟨Nat.le_of_ble_eq_true rfl, rfl⟩ (Nat.le_of_ble_eq_true rfl) (c1) ?_
    refine jx_T.step (pc' := 32) (st' := [_]) rfl rfl ?_
    refine cl.get 1 (by decide) rfl (cw_c1 _) rfl ?_
    refine jx_T.step (pc' := 36) (st' := [_, _]) rfl rfl ?_
    refine jx_T.step (pc' := 37) (st' := [_, _, _]) rfl rfl ?_
    refine cl.get 1 (by decide) rfl (cw_c1 _) rfl ?_
    refine cl.get 10 (by decide) rfl (cw_c10 _) rfl ?_
    rw [a5]
    refine jx_T.step (pc' := 44) (st' := [_, _, _]) rfl rfl ?_
    refine cl.last 34 (by decide) rfl (cw_c34 _) (cw_s34 _) (by decide) ?_
    rw [show ((0 : Int32)).toNatClampNeg = 0 from rfl, ← e2]
    refine jx_T.step (pc' := 46) (st' := [_]) rfl rfl ?_
    refine cl.get 1 (by decide) rfl (cw_c1 _) rfl ?_
    refine jx_T.step (pc' := 50) (st' := [_, _]) rfl rfl ?_
    refine jx_T.step (pc' := 51) (st' := [_, _, _]) rfl rfl ?_
    refine cl.get 1 (by decide) rfl (cw_c1 _) rfl ?_
    refine cl.get 10 (by decide) rfl (cw_c10 _) rfl ?_
    rw [r2, a4]
    by_cases z : q.1 = 0
    · refine cl.brn rfl (fun y => absurd z y) (fun _ => ?_)
      refine jx_T.step (pc' := 61) (st' := [_, _, _]) rfl rfl ?_
      refine cl.get 1 (by decide) rfl (cw_c1 _) rfl ?_
      refine cl.get 10 (by decide) rfl (cw_c10 _) rfl ?_
      rw [r2, a6]
      refine jx_T.step (pc' := 73) (st' := [_, _, _]) rfl rfl ?_
      exact t2 _ (by rw [if_pos z])
    · refine cl.brn rfl (fun _ => ?_) (fun y => absurd y z)
      refine jx_T.step (pc' := 73) (st' := [_, _, _]) rfl rfl ?_
      exact t2 _ (by rw [if_neg z])
  · rw [s5, s4, s3, s2]
    unfold vp_updL vt_f
    by_cases j3 : j = 3
    · rw [if_pos j3, if_neg (show ¬ j = 0 by omega), if_neg (show ¬ j = 1 by omega), if_neg (show ¬ j = 2 by omega)]
    · rw [if_neg j3]
      by_cases j2 : j = 2
      · rw [if_pos j2, if_neg (show ¬ j = 0 by omega), if_neg (show ¬ j = 1 by omega), if_pos j2]
      · rw [if_neg j2]
        by_cases j1 : j = 1
        · rw [if_pos j1, if_neg (show ¬ j = 0 by omega), if_pos j1]
        · rw [if_neg j1, if_pos (show j = 0 by omega), if_pos (show j = 0 by omega)]
theorem kc_closest_no (k j : Int32) (hk : ¬ (0 ≤ k.toInt ∧ k.toInt ≤ 3)) : jx_T 122 0 (jx_ent 122 [.ref 1, .int k, .int j]) [] (hc W g nx s) (some (.int (-1))) (hc W g nx s) := by
  show jx_T 122 0 [.ref 1, .int k, .int j] [] _ _ _
  refine jx_T.step (pc' := 1) (st' := [_]) rfl rfl ?_
  refine jx_T.step (pc' := 2) (st' := [_, _]) rfl rfl ?_
  refine jx_T.step (pc' := 3) (st' := [_, _, _]) rfl rfl ?_
  refine cl.s3I rfl (by decide) rfl (Nat.le_of_ble_eq_true rfl) (Nat.le_of_ble_eq_true rfl) (kc_within _ _ _ _) ?_
  refine cl.br rfl (jx_br_eq _ _) (fun _ => ?_) (fun zq => absurd ((rf_o_0 _).mpr hk) zq)
  refine jx_T.step (pc' := 32) (st' := [_]) rfl rfl ?_
  exact jx_T.ret rfl rfl
theorem kc_closest_k (n : cl_now W g x T) (k : Nat) (hk : k < 4) (hX : (T.2.2.2.2.1 k).1 ≤ 20) (j : Int32) (hj : ¬ (0 ≤ j.toInt ∧ j.toInt < (T.2.2.2.2.1 k).1)) : jx_T 122 0 (jx_ent 122 [.ref 1, .int (nI k), .int j]) [] (hc W g nx s) (some (.int (-1))) (hc W g nx s) := by
  have n0 := n
  obtain ⟨s1, s2, s3, s4, f1, f2, f3, p1, p2, p3, p4, p5, p6, p7, -⟩ := n0.2.1
  obtain ⟨y, ey, iy⟩ := p7 k hk
  have cn0 := kc_now nx s n
  obtain ⟨b1, b2, b3, i0, -⟩ := iy
  show jx_T 122 0 [.ref 1, .int (nI k), .int j] [] _ _ _
  refine jx_T.step (pc' := 1) (st' := [_]) rfl rfl ?_
  refine jx_T.step (pc' := 2) (st' := [_, _]) rfl rfl ?_
  refine jx_T.step (pc' := 3) (st' := [_, _, _]) rfl rfl ?_
  refine cl.s3I rfl (by decide) rfl (Nat.le_of_ble_eq_true rfl) (Nat.le_of_ble_eq_true rfl) (kc_within _ _ _ _) ?_
  refine cl.br rfl (jx_br_eq _ _) (fun zq => absurd zq (fun q => (rf_o_0 _).mp q (rf_k4 hk))) (fun _ => ?_)
  refine jx_T.step (pc' := 10) (st' := [_]) rfl rfl ?_
  refine jx_T.step (pc' := 11) (st' := [_, _]) rfl rfl ?_
  refine jx_T.step (pc' := 12) (st' := [_, _, _]) rfl rfl ?_
  refine cl.v0I (hc_fix 1 (by decide) (cw_c1 _)) rfl (by decide) rfl ⟨Nat.le_of_ble_eq_true rfl, rfl⟩ (Nat.le_of_ble_eq_true rfl) (cn0) ?_
  refine cl.geti (p1).1 (p1).2 rfl rfl ?_
  refine jx_T.step (pc' := 19) (st' := [_, _, _, _]) rfl rfl ?_
  refine cl.aaldi (p6).1 (p6).2 rfl (by decide) (rf_ix (by omega) (by decide)) ?_
  rw [nI_clamp (by omega), ey]
  refine cl.geti (i0).1 (i0).2 rfl rfl ?_
  refine jx_T.step (pc' := 24) (st' := [_, _, _, _]) rfl rfl ?_
  refine jx_T.step (pc' := 25) (st' := [_, _, _]) rfl rfl ?_
  refine cl.s3I rfl (by decide) rfl (Nat.le_of_ble_eq_true rfl) (Nat.le_of_ble_eq_true rfl) (kc_within _ _ _ _) ?_
  refine cl.brn rfl (fun zq => absurd ((rf_o_0 _).mpr (fun q => hj (by have := nI_m1 (n := (T.2.2.2.2.1 k).1) (by omega); rw [rf_w] at this; rw [this] at q; exact ⟨q.1, by omega⟩))) zq) (fun _ => ?_)
  refine jx_T.step (pc' := 32) (st' := [_]) rfl rfl ?_
  exact jx_T.ret rfl rfl
theorem kc_closest (n : cl_now W g x T) (k j : Nat) (hk : k < 4) (hX : (T.2.2.2.2.1 k).1 ≤ 20) (hm : hm_ok T (T.2.2.2.2.1 k)) (hj : j < (T.2.2.2.2.1 k).1) : ∃ W2, jx_T 122 0 (jx_ent 122 [.ref 1, .int (nI k), .int (nI j)]) [] (hc W g nx s) (some (.int (if (hr_at T (T.2.2.2.2.1 k) (W.1 12)).1 = 0 then (hr_at T (T.2.2.2.2.1 k) (W.1 12)).2.2.2 j else -1))) (hc W2 g nx s) ∧ kq_f W W2 := by
  have n0 := n
  have ok := n.2.2
  obtain ⟨s1, s2, s3, s4, f1, f2, f3, p1, p2, p3, p4, p5, p6, p7, -⟩ := n0.2.1
  obtain ⟨y, ey, iy⟩ := p7 k hk
  have cn0 := kc_now nx s n
  obtain ⟨W1, c1, g1, a4, a5, a6, a7, a8⟩ := kc_hear (nx := nx) (s := s) W n.2.1 ok iy hX hm
  obtain ⟨b1, b2, b3, i0, -⟩ := iy
  refine ⟨W1, ?_, g1.Q⟩
  show jx_T 122 0 [.ref 1, .int (nI k), .int (nI j)] [] _ _ _
  refine jx_T.step (pc' := 1) (st' := [_]) rfl rfl ?_
  refine jx_T.step (pc' := 2) (st' := [_, _]) rfl rfl ?_
  refine jx_T.step (pc' := 3) (st' := [_, _, _]) rfl rfl ?_
  refine cl.s3I rfl (by decide) rfl (Nat.le_of_ble_eq_true rfl) (Nat.le_of_ble_eq_true rfl) (kc_within _ _ _ _) ?_
  refine cl.br rfl (jx_br_eq _ _) (fun zq => absurd zq (fun q => (rf_o_0 _).mp q (rf_k4 hk))) (fun _ => ?_)
  refine jx_T.step (pc' := 10) (st' := [_]) rfl rfl ?_
  refine jx_T.step (pc' := 11) (st' := [_, _]) rfl rfl ?_
  refine jx_T.step (pc' := 12) (st' := [_, _, _]) rfl rfl ?_
  refine cl.v0I (hc_fix 1 (by decide) (cw_c1 _)) rfl (by decide) rfl ⟨Nat.le_of_ble_eq_true rfl, rfl⟩ (Nat.le_of_ble_eq_true rfl) (cn0) ?_
  refine cl.geti (p1).1 (p1).2 rfl rfl ?_
  refine jx_T.step (pc' := 19) (st' := [_, _, _, _]) rfl rfl ?_
  refine cl.aaldi (p6).1 (p6).2 rfl (by decide) (rf_ix (by omega) (by decide)) ?_
  rw [nI_clamp (by omega), ey]
  refine cl.geti (i0).1 (i0).2 rfl rfl ?_
  refine jx_T.step (pc' := 24) (st' := [_, _, _, _]) rfl rfl ?_
  refine jx_T.step (pc' := 25) (st' := [_, _, _]) rfl rfl ?_
  refine cl.s3I rfl (by decide) rfl (Nat.le_of_ble_eq_true rfl) (Nat.le_of_ble_eq_true rfl) (kc_within _ _ _ _) ?_
  refine cl.brn rfl (fun _ => ?_) (fun zq => absurd zq (fun q => (rf_o_0 _).mp q (by have := nI_m1 (n := (T.2.2.2.2.1 k).1) (by omega); rw [rf_w] at this; rw [this, nI_toInt (by omega)]; show (0 : Int) ≤ (j : Int) ∧ (j : Int) ≤ _; omega)))
  refine jx_T.step (pc' := 34) (st' := [_]) rfl rfl ?_
  refine cl.get 1 (by decide) rfl (cw_c1 _) rfl ?_
  refine jx_T.step (pc' := 38) (st' := [_, _]) rfl rfl ?_
  refine cl.v0I (hc_fix 1 (by decide) (cw_c1 _)) rfl (by decide) rfl ⟨Nat.le_of_ble_eq_true rfl, rfl⟩ (Nat.le_of_ble_eq_true rfl) (cn0) ?_
  refine jx_T.step (pc' := 42) (st' := [_, _, _]) rfl rfl ?_
  refine cl.v0I (hc_fix 1 (by decide) (cw_c1 _)) rfl (by decide) rfl ⟨Nat.le_of_ble_eq_true rfl, rfl⟩ (Nat.le_of_ble_eq_true rfl) (cn0) ?_
  refine cl.geti (p1).1 (p1).2 rfl rfl ?_
  refine jx_T.step (pc' := 49) (st' := [_, _, _, _]) rfl rfl ?_
  refine cl.aaldi (p6).1 (p6).2 rfl (by decide) (rf_ix (by omega) (by decide)) ?_
  rw [nI_clamp (by omega), ey]
  refine cl.v2V (hc_fix 10 (by decide) (cw_c10 _)) rfl (by decide) rfl ⟨Nat.le_of_ble_eq_true rfl, rfl⟩ (Nat.le_of_ble_eq_true rfl) (c1) ?_
  refine jx_T.step (pc' := 54) (st' := [_]) rfl rfl ?_
  refine cl.get 1 (by decide) rfl (cw_c1 _) rfl ?_
  refine cl.get 10 (by decide) rfl (cw_c10 _) rfl ?_
  rw [a4]
  by_cases z : (hr_at T (T.2.2.2.2.1 k) (W.1 12)).1 = 0
  · rw [if_pos z]
    refine cl.brn rfl (fun y => absurd z y) (fun _ => ?_)
    refine jx_T.step (pc' := 64) (st' := [_]) rfl rfl ?_
    refine cl.get 1 (by decide) rfl (cw_c1 _) rfl ?_
    refine cl.get 10 (by decide) rfl (cw_c10 _) rfl ?_
    refine jx_T.step (pc' := 71) (st' := [_, _]) rfl rfl ?_
    refine cl.iald 12 (by decide) rfl (cw_c12 _) (rf_ix (by omega) (by decide)) ?_
    rw [nI_clamp (by omega), a8 j (by omega)]
    refine jx_T.step (pc' := 76) (st' := [_]) rfl rfl ?_
    exact jx_T.ret rfl rfl
  · rw [if_neg z]
    refine cl.brn rfl (fun _ => ?_) (fun y => absurd y z)
    refine jx_T.step (pc' := 76) (st' := [_]) rfl rfl ?_
    exact jx_T.ret rfl rfl
end
