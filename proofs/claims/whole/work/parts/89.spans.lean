/-! the works: a sheet's spans -/
section
variable {W : cw} {g : Nat → Option jx_E} {nx s : Nat}
theorem kc_tells {y : Nat} {X : shv} (iy : im_sh g y X) (hX : X.2.1 ≤ 16) (hot from_ : Int32) (p : Nat) (hp : p ≤ 8) : jx_T 67 0 (jx_ent 67 [.ref y, .int hot, .int from_, .int (nI p)]) [] (hc W g nx s) (some (.int (rf_o (bn_ok X.2.2 0 hot (min X.2.1 (2 * p)) 0 from_ = true)))) (hc W g nx s) := by
  obtain ⟨b, q1, q2⟩ := iy
  have loop : ∀ d k w u, k + d = min X.2.1 (2 * p) → jx_T 67 6 [.ref y, .int hot, .int from_, .int (nI p), .int w, .int (nI k), u] [] (hc W g nx s) (some (.int (rf_o (bn_ok X.2.2 0 hot d k w = true)))) (hc W g nx s) := by
    intro d
    induction d with
    | zero =>
      intro k w u hk
      rw [rf_ot (show bn_ok X.2.2 0 hot 0 k w = true from rfl)]
      refine jx_T.step (pc' := 8) (st' := [_]) rfl rfl ?_
      refine jx_T.step (pc' := 9) (st' := [_, _]) rfl rfl ?_
      refine jx_T.step (pc' := 10) (st' := [_, _, _]) rfl rfl ?_
      refine jx_T.step (pc' := 11) (st' := [_, _]) rfl rfl ?_
      rw [rf_lit 2, pk_mul]
      by_cases z : 2 * p ≤ k
      · refine cl.bc rfl (jx_br_ge _ _) (fun _ => ?_) (fun zq => absurd (nI_le z (by omega)) zq)
        refine jx_T.step (pc' := 117) (st' := [_]) rfl rfl ?_
        exact jx_T.ret rfl rfl
      · refine cl.bc rfl (jx_br_ge _ _) (fun zq => absurd zq (nI_ge (by omega) (by omega))) (fun _ => ?_)
        refine jx_T.step (pc' := 16) (st' := [_]) rfl rfl ?_
        refine jx_T.step (pc' := 17) (st' := [_, _]) rfl rfl ?_
        refine cl.geti (q1).1 (q1).2 rfl rfl ?_
        refine cl.aleni (q2).1 (q2).2 rfl (Or.inl (by decide)) ?_
        refine cl.bc rfl (jx_br_ge _ _) (fun _ => ?_) (fun zq => absurd (nI_le (by omega) (by omega)) zq)
        refine jx_T.step (pc' := 117) (st' := [_]) rfl rfl ?_
        exact jx_T.ret rfl rfl
    | succ d ih =>
      intro k w u hk
      have em : nI k - nI k / 2 * 2 = nI (k % 2) := by rw [rf_lit 2, pk_rem (by omega) (by decide) (by decide)]
      have hk1 : k < X.2.1 := by omega
      have hk2 : k < 2 * p := by omega
      obtain ⟨r, er⟩ : ∃ r, r = bn_ok X.2.2 0 hot (d + 1) k w := ⟨_, rfl⟩
      rw [← er]
      unfold bn_ok at er
      rw [Nat.zero_add] at er
      generalize hx : X.2.2 k = x at er
      have t100 : ∀ iD : Int32, (1 ≤ x.toInt ∧ x.toInt ≤ if k % 2 = 0 then 500 else 1000) → jx_T 67 100 [.ref y, .int hot, .int from_, .int (nI p), .int (bn_w hot w x k), .int (nI k), .int iD] [] (hc W g nx s) (some (.int (rf_o (r = true)))) (hc W g nx s) := by
        intro iD g1
        refine jx_T.step (pc' := 102) (st' := [_]) rfl rfl ?_
        refine cl.s1I rfl (by decide) rfl (Nat.le_of_ble_eq_true rfl) (Nat.le_of_ble_eq_true rfl) (kc_isWarmth _ _) ?_
        by_cases g2 : 0 ≤ (bn_w hot w x k).toInt ∧ (bn_w hot w x k).toInt ≤ 2000
        · refine cl.brn rfl (fun _ => ?_) (fun zq => absurd zq (fun q => (rf_o_0 _).mp q g2))
          refine jx_T.step (pc' := 113) (ls' := [_, _, _, _, _, _, _]) (st' := []) rfl rfl ?_
          refine jx_T.step (pc' := 6) (st' := []) rfl rfl ?_
          rw [nI_1]
          have t := ih (k + 1) (bn_w hot w x k) (.int iD) (by omega)
          rw [er, if_pos ⟨g1, g2⟩]
          exact t
        · rw [show rf_o (r = true) = 0 from rf_of (by rw [er, if_neg (fun q => g2 q.2)]; simp)]
          refine cl.brn rfl (fun zq => absurd ((rf_o_0 _).mpr g2) zq) (fun _ => ?_)
          refine jx_T.step (pc' := 109) (st' := [_]) rfl rfl ?_
          exact jx_T.ret rfl rfl
      have t60 : ∀ iD lim : Int32, iD = (if k % 2 = 0 then 1 else 0) → lim.toInt = (if k % 2 = 0 then 500 else 1000) → jx_T 67 60 [.ref y, .int hot, .int from_, .int (nI p), .int w, .int (nI k), .int iD] [.int lim, .int 1, .int x] (hc W g nx s) (some (.int (rf_o (r = true)))) (hc W g nx s) := by
        intro iD lim hi hl
        refine cl.s3I rfl (by decide) rfl (Nat.le_of_ble_eq_true rfl) (Nat.le_of_ble_eq_true rfl) (kc_within _ _ _ _) ?_
        by_cases g1 : 1 ≤ x.toInt ∧ x.toInt ≤ if k % 2 = 0 then 500 else 1000
        · have t := t100 iD g1
          refine cl.brn rfl (fun _ => ?_) (fun zq => absurd zq (fun q => (rf_o_0 _).mp q (by rw [hl]; exact g1)))
          refine jx_T.step (pc' := 70) (st' := [_]) rfl rfl ?_
          by_cases h2 : k % 2 = 0
          · rw [show bn_w hot w x k = if hot = 0 then w + x else w + -x from if_pos h2] at t
            rw [if_pos h2] at hi
            subst hi
            refine cl.br rfl (jx_br_eq _ _) (fun zq => absurd zq (by decide)) (fun _ => ?_)
            refine jx_T.step (pc' := 75) (st' := [_]) rfl rfl ?_
            refine jx_T.step (pc' := 76) (st' := [_, _]) rfl rfl ?_
            by_cases z : hot = 0
            · rw [if_pos z] at t
              refine cl.br rfl (jx_br_eq _ _) (fun _ => ?_) (fun zq => absurd (z) zq)
              refine jx_T.step (pc' := 91) (st' := [_, _]) rfl rfl ?_
              refine cl.geti (q1).1 (q1).2 rfl rfl ?_
              refine jx_T.step (pc' := 96) (st' := [_, _, _]) rfl rfl ?_
              refine cl.ialdi (q2).1 (q2).2 rfl (rf_ix (by omega) (by omega)) ?_
              rw [nI_clamp (by omega), hx]
              refine jx_T.step (pc' := 98) (st' := [_]) rfl rfl ?_
              refine jx_T.step (pc' := 100) (ls' := [_, _, _, _, _, _, _]) (st' := []) rfl rfl ?_
              exact t
            · rw [if_neg z] at t
              refine cl.br rfl (jx_br_eq _ _) (fun zq => absurd zq (z)) (fun _ => ?_)
              refine jx_T.step (pc' := 80) (st' := [_, _]) rfl rfl ?_
              refine cl.geti (q1).1 (q1).2 rfl rfl ?_
              refine jx_T.step (pc' := 85) (st' := [_, _, _]) rfl rfl ?_
              refine cl.ialdi (q2).1 (q2).2 rfl (rf_ix (by omega) (by omega)) ?_
              rw [nI_clamp (by omega), hx]
              refine jx_T.step (pc' := 87) (st' := [_, _]) rfl rfl ?_
              refine jx_T.step (pc' := 97) (st' := [_, _]) rfl rfl ?_
              refine jx_T.step (pc' := 98) (st' := [_]) rfl rfl ?_
              refine jx_T.step (pc' := 100) (ls' := [_, _, _, _, _, _, _]) (st' := []) rfl rfl ?_
              exact t
          · rw [show bn_w hot w x k = w from if_neg h2] at t
            rw [if_neg h2] at hi
            subst hi
            refine cl.br rfl (jx_br_eq _ _) (fun _ => ?_) (fun zq => absurd (rfl) zq)
            exact t
        · rw [show rf_o (r = true) = 0 from rf_of (by rw [er, if_neg (fun q => g1 q.1)]; simp)]
          refine cl.brn rfl (fun zq => absurd ((rf_o_0 _).mpr (by rw [hl]; exact g1)) zq) (fun _ => ?_)
          refine jx_T.step (pc' := 67) (st' := [_]) rfl rfl ?_
          exact jx_T.ret rfl rfl
      refine jx_T.step (pc' := 8) (st' := [_]) rfl rfl ?_
      refine jx_T.step (pc' := 9) (st' := [_, _]) rfl rfl ?_
      refine jx_T.step (pc' := 10) (st' := [_, _, _]) rfl rfl ?_
      refine jx_T.step (pc' := 11) (st' := [_, _]) rfl rfl ?_
      rw [rf_lit 2, pk_mul]
      refine cl.bc rfl (jx_br_ge _ _) (fun zq => absurd zq (nI_ge (by omega) (by omega))) (fun _ => ?_)
      refine jx_T.step (pc' := 16) (st' := [_]) rfl rfl ?_
      refine jx_T.step (pc' := 17) (st' := [_, _]) rfl rfl ?_
      refine cl.geti (q1).1 (q1).2 rfl rfl ?_
      refine cl.aleni (q2).1 (q2).2 rfl (Or.inl (by decide)) ?_
      refine cl.bc rfl (jx_br_ge _ _) (fun zq => absurd zq (nI_ge (by omega) (by omega))) (fun _ => ?_)
      refine jx_T.step (pc' := 26) (st' := [_]) rfl rfl ?_
      refine jx_T.step (pc' := 27) (st' := [_, _]) rfl rfl ?_
      refine cl.irem rfl (by decide) ?_
      rw [em]
      by_cases h2 : k % 2 = 0
      · rw [h2]
        refine cl.brn rfl (fun zq => absurd (rfl) zq) (fun _ => ?_)
        refine jx_T.step (pc' := 32) (st' := [_]) rfl rfl ?_
        refine jx_T.step (pc' := 36) (st' := [_]) rfl rfl ?_
        refine jx_T.step (pc' := 38) (ls' := [_, _, _, _, _, _, _]) (st' := []) rfl rfl ?_
        refine jx_T.step (pc' := 39) (st' := [_]) rfl rfl ?_
        refine cl.geti (q1).1 (q1).2 rfl rfl ?_
        refine jx_T.step (pc' := 44) (st' := [_, _]) rfl rfl ?_
        refine cl.ialdi (q2).1 (q2).2 rfl (rf_ix (by omega) (by omega)) ?_
        rw [nI_clamp (by omega), hx]
        refine jx_T.step (pc' := 46) (st' := [_, _]) rfl rfl ?_
        refine jx_T.step (pc' := 48) (st' := [_, _, _]) rfl rfl ?_
        refine cl.br rfl (jx_br_eq _ _) (fun zq => absurd zq (by decide)) (fun _ => ?_)
        refine jx_T.step (pc' := 54) (st' := [_, _, _]) rfl rfl ?_
        refine jx_T.step (pc' := 60) (st' := [_, _, _]) rfl rfl ?_
        exact t60 1 500 (by rw [if_pos h2]) (by rw [if_pos h2]; rfl)
      · rw [show k % 2 = 1 by omega]
        refine cl.brn rfl (fun _ => ?_) (fun zq => absurd zq (by decide))
        refine jx_T.step (pc' := 36) (st' := [_]) rfl rfl ?_
        refine jx_T.step (pc' := 38) (ls' := [_, _, _, _, _, _, _]) (st' := []) rfl rfl ?_
        refine jx_T.step (pc' := 39) (st' := [_]) rfl rfl ?_
        refine cl.geti (q1).1 (q1).2 rfl rfl ?_
        refine jx_T.step (pc' := 44) (st' := [_, _]) rfl rfl ?_
        refine cl.ialdi (q2).1 (q2).2 rfl (rf_ix (by omega) (by omega)) ?_
        rw [nI_clamp (by omega), hx]
        refine jx_T.step (pc' := 46) (st' := [_, _]) rfl rfl ?_
        refine jx_T.step (pc' := 48) (st' := [_, _, _]) rfl rfl ?_
        refine cl.br rfl (jx_br_eq _ _) (fun _ => ?_) (fun zq => absurd (rfl) zq)
        refine jx_T.step (pc' := 60) (st' := [_, _, _]) rfl rfl ?_
        exact t60 0 1000 (by rw [if_neg h2]) (by rw [if_neg h2]; rfl)
  show jx_T 67 0 [.ref y, .int hot, .int from_, .int (nI p), .retAddr 0, .retAddr 0, .retAddr 0] [] _ _ _
  refine jx_T.step (pc' := 1) (st' := [_]) rfl rfl ?_
  refine jx_T.step (pc' := 3) (ls' := [_, _, _, _, _, _, _]) (st' := []) rfl rfl ?_
  refine jx_T.step (pc' := 4) (st' := [_]) rfl rfl ?_
  refine jx_T.step (pc' := 6) (ls' := [_, _, _, _, _, _, _]) (st' := []) rfl rfl ?_
  exact loop _ 0 _ _ (by omega)
theorem cl.v2I9 {m pc : Nat} {ls : List Value} {v : Option Value} {h h2 : jx_H} {n len x y a c : Nat} {a1 a2 : Value} {w : Value} {k0 : Int32} {rest fs : List Value} {h1 : jx_H} (he : h.2.2 a = some (.inr (c, fs))) (hr : jx_rc m pc = some (.invokevirtual n, len, x, y, .int k0)) (hx : ¬ x = 5) (hk : k0 = 2) (h68 : y = 68) (hc : jx_cat rest ≤ 9 ∧ c = (jx_mi y).2.2.2.2.1) (hl : (jx_args [.ref a, a1, a2]).length ≤ (jx_mi y).2.2.1) (hM : jx_T y 0 (jx_ent y [.ref a, a1, a2]) [] h (some w) h1) (k : jx_T m (pc + 3) ls (w :: rest) h1 v h2) : jx_T m pc ls (a2 :: a1 :: .ref a :: rest) h v h2 := by
  subst hk
  exact jx_T.virt9 hr hx rfl he h68 hc rfl hl hM k
def ev_f (f : Nat → Int32) (c k : Nat) : Nat → Int32 := rf_put (fun _ => 0) (fun q => f (c + 2 * q)) 0 k
theorem ev_s (f : Nat → Int32) (c k : Nat) : upd (ev_f f c k) k (f (c + 2 * k)) = ev_f f c (k + 1) := by
  have h := rf_put_s (fun _ => (0 : Int32)) (fun q => f (c + 2 * q)) 0 k
  rw [Nat.zero_add] at h
  exact h
theorem kc_every (hn : 35 ≤ nx) (hf : ∀ a, nx ≤ a → g a = none) {y : Nat} {X : shv} (iy : im_sh g y X) (hX : X.2.1 ≤ 16) (c p : Nat) (hc1 : c ≤ 1) (hp : p ≤ 8) (h2 : 2 * p ≤ X.2.1) : jx_T 68 0 (jx_ent 68 [.ref y, .int (nI c), .int (nI p)]) [] (hc W g nx s) (some (.ref nx)) (hc W (jx_up g nx (.inl (0, p, .inl (ev_f X.2.2 c p)))) (nx + 1) (s + p)) := by
  have u1 : ∀ e, ge g (jx_up g nx e) := fun e => ge.up (hf nx (Nat.le_refl _))
  obtain ⟨b, q1, q2⟩ := iy
  have loop : ∀ d k, k + d = p → jx_T 68 11 [.ref y, .int (nI c), .int (nI p), .ref nx, .int (nI k)] [] (hc W (jx_up g nx (.inl (0, p, .inl (ev_f X.2.2 c k)))) (nx + 1) (s + p)) (some (.ref nx)) (hc W (jx_up g nx (.inl (0, p, .inl (ev_f X.2.2 c p)))) (nx + 1) (s + p)) := by
    intro d
    induction d with
    | zero =>
      intro k hk
      obtain rfl : k = p := by omega
      have na : 35 ≤ nx ∧ jx_up g nx (.inl (0, k, .inl (ev_f X.2.2 c k))) nx = some (.inl (0, k, .inl (ev_f X.2.2 c k))) := ⟨hn, jx_up_eq⟩
      refine jx_T.step (pc' := 13) (st' := [_]) rfl rfl ?_
      refine jx_T.step (pc' := 14) (st' := [_, _]) rfl rfl ?_
      refine cl.aleni (na).1 (na).2 rfl (Or.inl (by decide)) ?_
      refine cl.bc rfl (jx_br_ge _ _) (fun _ => ?_) (fun zq => absurd (Int32.le_refl _) zq)
      refine jx_T.step (pc' := 54) (st' := [_]) rfl rfl ?_
      exact jx_T.ret rfl rfl
    | succ d ih =>
      intro k hk
      have na : 35 ≤ nx ∧ jx_up g nx (.inl (0, p, .inl (ev_f X.2.2 c k))) nx = some (.inl (0, p, .inl (ev_f X.2.2 c k))) := ⟨hn, jx_up_eq⟩
      have z1 : 35 ≤ y ∧ jx_up g nx (.inl (0, p, .inl (ev_f X.2.2 c k))) y = some (.inr (8, [.int X.1, .ref b])) := ⟨q1.1, u1 _ _ _ q1.2⟩
      have z2 : 35 ≤ b ∧ jx_up g nx (.inl (0, p, .inl (ev_f X.2.2 c k))) b = some (.inl (0, X.2.1, .inl X.2.2)) := ⟨q2.1, u1 _ _ _ q2.2⟩
      refine jx_T.step (pc' := 13) (st' := [_]) rfl rfl ?_
      refine jx_T.step (pc' := 14) (st' := [_, _]) rfl rfl ?_
      refine cl.aleni (na).1 (na).2 rfl (Or.inl (by decide)) ?_
      refine cl.bc rfl (jx_br_ge _ _) (fun zq => absurd zq (nI_ge (by omega) (by omega))) (fun _ => ?_)
      refine jx_T.step (pc' := 19) (st' := [_]) rfl rfl ?_
      refine jx_T.step (pc' := 20) (st' := [_, _]) rfl rfl ?_
      refine jx_T.step (pc' := 22) (st' := [_, _, _]) rfl rfl ?_
      refine jx_T.step (pc' := 23) (st' := [_, _]) rfl rfl ?_
      rw [rf_lit 2, pk_mul]
      refine jx_T.step (pc' := 24) (st' := [_]) rfl rfl ?_
      refine jx_T.step (pc' := 25) (st' := [_, _]) rfl rfl ?_
      refine cl.geti (z1).1 (z1).2 rfl rfl ?_
      refine cl.aleni (z2).1 (z2).2 rfl (Or.inl (by decide)) ?_
      rw [nI_add]
      refine cl.bc rfl (jx_br_ge _ _) (fun zq => absurd zq (nI_ge (by omega) (by omega))) (fun _ => ?_)
      refine jx_T.step (pc' := 33) (st' := [_]) rfl rfl ?_
      refine jx_T.step (pc' := 35) (st' := [_, _]) rfl rfl ?_
      refine jx_T.step (pc' := 36) (st' := [_, _, _]) rfl rfl ?_
      refine cl.geti (z1).1 (z1).2 rfl rfl ?_
      refine jx_T.step (pc' := 40) (st' := [_, _, _, _]) rfl rfl ?_
      refine jx_T.step (pc' := 41) (st' := [_, _, _, _, _]) rfl rfl ?_
      refine jx_T.step (pc' := 43) (st' := [_, _, _, _, _, _]) rfl rfl ?_
      refine jx_T.step (pc' := 44) (st' := [_, _, _, _, _]) rfl rfl ?_
      rw [rf_lit 2, pk_mul]
      refine jx_T.step (pc' := 45) (st' := [_, _, _, _]) rfl rfl ?_
      rw [nI_add]
      refine cl.ialdi (z2).1 (z2).2 rfl (rf_ix (by omega) (by omega)) ?_
      rw [nI_clamp (by omega)]
      refine cl.iastn hn rfl (rf_ix (by omega) (by omega)) ?_
      rw [nI_clamp (by omega), ev_s]
      refine jx_T.step (pc' := 50) (ls' := [_, _, _, _, _]) (st' := []) rfl rfl ?_
      refine jx_T.step (pc' := 11) (st' := []) rfl rfl ?_
      rw [nI_1]
      exact ih (k + 1) (by omega)
  have l0 := loop p 0 (by omega)
  show jx_T 68 0 [.ref y, .int (nI c), .int (nI p), .retAddr 0, .retAddr 0] [] _ _ _
  refine jx_T.step (pc' := 1) (st' := [_]) rfl rfl ?_
  refine jx_T.step (pc' := 2) (st' := [_, _]) rfl rfl ?_
  refine cl.s2I rfl (by decide) rfl (Nat.le_of_ble_eq_true rfl) (Nat.le_of_ble_eq_true rfl) (kc_max _ _ _) ?_
  rw [if_neg (nI_pos (by omega))]
  refine cl.newI hn rfl ⟨nI_pos (by omega), by rw [nI_clamp (by omega)]; omega⟩ ?_
  rw [nI_clamp (by omega)]
  refine jx_T.step (pc' := 8) (ls' := [_, _, _, _, _]) (st' := []) rfl rfl ?_
  refine jx_T.step (pc' := 9) (st' := [_]) rfl rfl ?_
  refine jx_T.step (pc' := 11) (ls' := [_, _, _, _, _]) (st' := []) rfl rfl ?_
  rw [show ev_f X.2.2 c 0 = fun _ => 0 from rf_put_0 _ _ _] at l0
  exact l0
end
