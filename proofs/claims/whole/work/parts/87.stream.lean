/-! the works: a stream made anew -/
/-- rows as they stand from the hotter end on, k of n laid -/
def sn_dn (hot : Int32) (n : Nat) (f : Nat → Int32) (k : Nat) : Nat → Int32 := fun j => if hot = 0 then (if n - k ≤ j ∧ j < n then f (n - 1 - j) else 0) else (if j < k then f j else 0)
def sn_far (f : Nat → Int32) : Nat → Int32
  | 0 => 0
  | k + 1 => sn_far f k + f k
def sn_sum (a : Int32) (f h : Nat → Int32) : Nat → Int32
  | 0 => a
  | k + 1 => sn_sum a f h k + f k * h k
def sn_S (kind hot work from_ am : Int32) (n : Nat) (fd ff : Nat → Int32) : sv := (kind, hot, work, from_, (if hot = 0 then from_ + sn_far fd n else from_ - sn_far fd n), (if hot = 0 then from_ + sn_far fd n else from_), sn_sum am fd ff n, n, sn_dn hot n fd n, sn_dn hot n ff n)
theorem sn_dn_0 (hot : Int32) (n : Nat) (f : Nat → Int32) : sn_dn hot n f 0 = fun _ => 0 := by
  funext j
  unfold sn_dn
  by_cases h : hot = 0
  · rw [if_pos h, if_neg (by omega)]
  · rw [if_neg h, if_neg (by omega)]
theorem sn_dn_s (hot : Int32) (n : Nat) (f : Nat → Int32) (k : Nat) (hk : k < n) : upd (sn_dn hot n f k) (if hot = 0 then n - 1 - k else k) (f k) = sn_dn hot n f (k + 1) := by
  funext j
  unfold sn_dn upd
  dsimp only
  by_cases h : hot = 0
  · rw [if_pos h, if_pos h, if_pos h]
    by_cases e : j = n - 1 - k
    · rw [if_pos e, if_pos (by omega), show n - 1 - j = k by omega]
    · rw [if_neg e]
      by_cases e2 : n - k ≤ j ∧ j < n
      · rw [if_pos e2, if_pos (by omega)]
      · rw [if_neg e2, if_neg (by omega)]
  · rw [if_neg h, if_neg h, if_neg h]
    by_cases e : j = k
    · rw [if_pos e, if_pos (by omega), e]
    · rw [if_neg e]
      by_cases e2 : j < k
      · rw [if_pos e2, if_pos (by omega)]
      · rw [if_neg e2, if_neg (by omega)]
section
variable {W : cw} {g : Nat → Option jx_E} {nx s : Nat}
theorem cl.iasti {a n : Nat} (ha : 35 ≤ a) {f : Nat → Int32} (hg : g a = some (.inl (0, n, .inl f))) {m pc x y : Nat} {ls st : List Value} {v : Option Value} {h2 : jx_H} {vv : Value} {i w : Int32} (hr : jx_rc m pc = some (.iastore, 1, x, y, vv)) (hi : ¬ (i < 0) ∧ i.toNatClampNeg < n) (k : jx_T m (pc + 1) ls st (hc W (jx_up g a (.inl (0, n, .inl (upd f i.toNatClampNeg w)))) nx s) v h2) : jx_T m pc ls (.int w :: .int i :: .ref a :: st) (hc W g nx s) v h2 := by
  refine jx_T.iast hr (hc_imm ha hg) hi ?_
  rw [hc_seto ha]
  exact k
theorem cl.p7V {n len x y a : Nat} {a1 a2 a3 a4 a5 a6 a7 : Value} {k0 : Int32} {m pc : Nat} {ls rest : List Value} {v : Option Value} {h h1 h2 : jx_H} (hr : jx_rc m pc = some (.invokespecial n, len, x, y, .int k0)) (hx : ¬ x = 4) (hk : k0 = 7) (hc : jx_cat rest ≤ 8) (hl : (jx_args [.ref a, a1, a2, a3, a4, a5, a6, a7]).length ≤ (jx_mi y).2.2.1) (hM : jx_T y 0 (jx_ent y [.ref a, a1, a2, a3, a4, a5, a6, a7]) [] h none h1) (k : jx_T m (pc + 3) ls rest h1 v h2) : jx_T m pc ls (a7 :: a6 :: a5 :: a4 :: a3 :: a2 :: a1 :: .ref a :: rest) h v h2 := by
  subst hk
  exact jx_T.spec hr hx rfl hc rfl hl hM k
theorem kc_initStream (hn : 35 ≤ nx) (hf : ∀ b, nx ≤ b → g b = none) {a p q n : Nat} {fd ff : Nat → Int32} (ha : 35 ≤ a ∧ g a = some (.inr (10, jx_dfl.getD 10 []))) (hp : 35 ≤ p ∧ g p = some (.inl (0, n, .inl fd))) (hq : 35 ≤ q ∧ g q = some (.inl (0, n, .inl ff))) (h8 : n ≤ 8) (kind hot work from_ am : Int32) (hh : hot = 0 ∨ hot = 1) : ∃ g2, jx_T 79 0 (jx_ent 79 [.ref a, .int kind, .int hot, .int work, .int from_, .int am, .ref p, .ref q]) [] (hc W g nx s) none (hc W g2 (nx + 2) (s + n + n)) ∧ im_str g2 a (sn_S kind hot work from_ am n fd ff) ∧ (∀ b e, b ≠ a → g b = some e → g2 b = some e) ∧ ∀ b, nx + 2 ≤ b → g2 b = none := by
  have l1 : 35 ≤ nx + 1 := Nat.le_trans hn (Nat.le_add_right _ _)
  have old : ∀ {b e}, g b = some e → b < nx := fun {b e} hb => Nat.lt_of_not_le (fun q => by rw [hf b q] at hb; exact absurd hb (by simp))
  have a1 := old ha.2
  have p1 := old hp.2
  have q1 := old hq.2
  have fin : ∀ (G : Nat → Option jx_E), (G nx = some (.inl (0, n, .inl (sn_dn hot n fd n))) ∧ G (nx + 1) = some (.inl (0, n, .inl (sn_dn hot n ff n))) ∧ ∀ b, b ≠ nx → b ≠ nx + 1 → G b = g b) → ∀ u14, jx_T 79 114 [.ref a, .int kind, .int hot, .int work, .int from_, .int am, .ref p, .ref q, .int (nI n), .ref nx, .ref (nx + 1), .int (sn_far fd n), .int (sn_sum am fd ff n), .int (nI n), u14] [] (hc W G (nx + 2) (s + n + n)) none (hc W (jx_up G a (.inr (10, sv_fs (sn_S kind hot work from_ am n fd ff) nx (nx + 1)))) (nx + 2) (s + n + n)) := by
    intro G hG u14
    have Ga : G a = some (.inr (10, jx_dfl.getD 10 [])) := (hG.2.2 a (by omega) (by omega)).trans ha.2
    have t : jx_T 79 114 [.ref a, .int kind, .int hot, .int work, .int from_, .int am, .ref p, .ref q, .int (nI n), .ref nx, .ref (nx + 1), .int (sn_far fd n), .int (sn_sum am fd ff n), .int (nI n), u14] [] (hc W (jx_up G a (.inr (10, jx_dfl.getD 10 []))) (nx + 2) (s + n + n)) none (hc W (jx_up G a (.inr (10, sv_fs (sn_S kind hot work from_ am n fd ff) nx (nx + 1)))) (nx + 2) (s + n + n)) := by
      rcases hh with rfl | rfl
      · have eS : sn_S kind 0 work from_ am n fd ff = (kind, 0, work, from_, from_ + sn_far fd n, from_ + sn_far fd n, sn_sum am fd ff n, n, sn_dn 0 n fd n, sn_dn 0 n ff n) := by unfold sn_S; rw [if_pos rfl, if_pos rfl]
        rw [eS]
        refine jx_T.step (pc' := 115) (st' := [_]) rfl rfl ?_
        refine jx_T.step (pc' := 116) (st' := [_, _]) rfl rfl ?_
        refine cl.putn ha.1 rfl (Nat.le_of_ble_eq_true rfl) rfl ?_
        refine jx_T.step (pc' := 120) (st' := [_]) rfl rfl ?_
        refine jx_T.step (pc' := 121) (st' := [_, _]) rfl rfl ?_
        refine cl.putn ha.1 rfl (Nat.le_of_ble_eq_true rfl) rfl ?_
        refine jx_T.step (pc' := 125) (st' := [_]) rfl rfl ?_
        refine jx_T.step (pc' := 126) (st' := [_, _]) rfl rfl ?_
        refine cl.putn ha.1 rfl (Nat.le_of_ble_eq_true rfl) rfl ?_
        refine jx_T.step (pc' := 130) (st' := [_]) rfl rfl ?_
        refine jx_T.step (pc' := 132) (st' := [_, _]) rfl rfl ?_
        refine cl.putn ha.1 rfl (Nat.le_of_ble_eq_true rfl) rfl ?_
        refine jx_T.step (pc' := 136) (st' := [_]) rfl rfl ?_
        refine jx_T.step (pc' := 137) (st' := [_, _]) rfl rfl ?_
        refine cl.br rfl (jx_br_eq _ _) (fun _ => ?_) (fun zq => absurd (rfl) zq)
        refine jx_T.step (pc' := 150) (st' := [_, _]) rfl rfl ?_
        refine jx_T.step (pc' := 152) (st' := [_, _, _]) rfl rfl ?_
        refine jx_T.step (pc' := 153) (st' := [_, _]) rfl rfl ?_
        refine cl.putn ha.1 rfl (Nat.le_of_ble_eq_true rfl) rfl ?_
        refine jx_T.step (pc' := 157) (st' := [_]) rfl rfl ?_
        refine jx_T.step (pc' := 158) (st' := [_, _]) rfl rfl ?_
        refine cl.br rfl (jx_br_eq _ _) (fun _ => ?_) (fun zq => absurd (rfl) zq)
        refine jx_T.step (pc' := 168) (st' := [_, _]) rfl rfl ?_
        refine jx_T.step (pc' := 170) (st' := [_, _, _]) rfl rfl ?_
        refine jx_T.step (pc' := 171) (st' := [_, _]) rfl rfl ?_
        refine cl.putn ha.1 rfl (Nat.le_of_ble_eq_true rfl) rfl ?_
        refine jx_T.step (pc' := 175) (st' := [_]) rfl rfl ?_
        refine jx_T.step (pc' := 177) (st' := [_, _]) rfl rfl ?_
        refine cl.putn ha.1 rfl (Nat.le_of_ble_eq_true rfl) rfl ?_
        refine jx_T.step (pc' := 181) (st' := [_]) rfl rfl ?_
        refine jx_T.step (pc' := 183) (st' := [_, _]) rfl rfl ?_
        refine cl.putn ha.1 rfl (Nat.le_of_ble_eq_true rfl) rfl ?_
        refine jx_T.step (pc' := 187) (st' := [_]) rfl rfl ?_
        refine jx_T.step (pc' := 189) (st' := [_, _]) rfl rfl ?_
        refine cl.putn ha.1 rfl (Nat.le_of_ble_eq_true rfl) rfl ?_
        exact jx_T.ret rfl rfl
      · have eS : sn_S kind 1 work from_ am n fd ff = (kind, 1, work, from_, from_ - sn_far fd n, from_, sn_sum am fd ff n, n, sn_dn 1 n fd n, sn_dn 1 n ff n) := by unfold sn_S; rw [if_neg (by decide), if_neg (by decide)]
        rw [eS]
        refine jx_T.step (pc' := 115) (st' := [_]) rfl rfl ?_
        refine jx_T.step (pc' := 116) (st' := [_, _]) rfl rfl ?_
        refine cl.putn ha.1 rfl (Nat.le_of_ble_eq_true rfl) rfl ?_
        refine jx_T.step (pc' := 120) (st' := [_]) rfl rfl ?_
        refine jx_T.step (pc' := 121) (st' := [_, _]) rfl rfl ?_
        refine cl.putn ha.1 rfl (Nat.le_of_ble_eq_true rfl) rfl ?_
        refine jx_T.step (pc' := 125) (st' := [_]) rfl rfl ?_
        refine jx_T.step (pc' := 126) (st' := [_, _]) rfl rfl ?_
        refine cl.putn ha.1 rfl (Nat.le_of_ble_eq_true rfl) rfl ?_
        refine jx_T.step (pc' := 130) (st' := [_]) rfl rfl ?_
        refine jx_T.step (pc' := 132) (st' := [_, _]) rfl rfl ?_
        refine cl.putn ha.1 rfl (Nat.le_of_ble_eq_true rfl) rfl ?_
        refine jx_T.step (pc' := 136) (st' := [_]) rfl rfl ?_
        refine jx_T.step (pc' := 137) (st' := [_, _]) rfl rfl ?_
        refine cl.br rfl (jx_br_eq _ _) (fun zq => absurd zq (by decide)) (fun _ => ?_)
        refine jx_T.step (pc' := 142) (st' := [_, _]) rfl rfl ?_
        refine jx_T.step (pc' := 144) (st' := [_, _, _]) rfl rfl ?_
        refine jx_T.step (pc' := 145) (st' := [_, _]) rfl rfl ?_
        refine jx_T.step (pc' := 153) (st' := [_, _]) rfl rfl ?_
        refine cl.putn ha.1 rfl (Nat.le_of_ble_eq_true rfl) rfl ?_
        refine jx_T.step (pc' := 157) (st' := [_]) rfl rfl ?_
        refine jx_T.step (pc' := 158) (st' := [_, _]) rfl rfl ?_
        refine cl.br rfl (jx_br_eq _ _) (fun zq => absurd zq (by decide)) (fun _ => ?_)
        refine jx_T.step (pc' := 163) (st' := [_, _]) rfl rfl ?_
        refine jx_T.step (pc' := 171) (st' := [_, _]) rfl rfl ?_
        refine cl.putn ha.1 rfl (Nat.le_of_ble_eq_true rfl) rfl ?_
        refine jx_T.step (pc' := 175) (st' := [_]) rfl rfl ?_
        refine jx_T.step (pc' := 177) (st' := [_, _]) rfl rfl ?_
        refine cl.putn ha.1 rfl (Nat.le_of_ble_eq_true rfl) rfl ?_
        refine jx_T.step (pc' := 181) (st' := [_]) rfl rfl ?_
        refine jx_T.step (pc' := 183) (st' := [_, _]) rfl rfl ?_
        refine cl.putn ha.1 rfl (Nat.le_of_ble_eq_true rfl) rfl ?_
        refine jx_T.step (pc' := 187) (st' := [_]) rfl rfl ?_
        refine jx_T.step (pc' := 189) (st' := [_, _]) rfl rfl ?_
        refine cl.putn ha.1 rfl (Nat.le_of_ble_eq_true rfl) rfl ?_
        exact jx_T.ret rfl rfl
    rw [jx_up_id Ga] at t
    exact t
  have loop : ∀ d k, k + d = n → ∀ (G : Nat → Option jx_E), (G nx = some (.inl (0, n, .inl (sn_dn hot n fd k))) ∧ G (nx + 1) = some (.inl (0, n, .inl (sn_dn hot n ff k))) ∧ ∀ b, b ≠ nx → b ≠ nx + 1 → G b = g b) → ∀ u14, ∃ G2, (G2 nx = some (.inl (0, n, .inl (sn_dn hot n fd n))) ∧ G2 (nx + 1) = some (.inl (0, n, .inl (sn_dn hot n ff n))) ∧ ∀ b, b ≠ nx → b ≠ nx + 1 → G2 b = g b) ∧ jx_T 79 37 [.ref a, .int kind, .int hot, .int work, .int from_, .int am, .ref p, .ref q, .int (nI n), .ref nx, .ref (nx + 1), .int (sn_far fd k), .int (sn_sum am fd ff k), .int (nI k), u14] [] (hc W G (nx + 2) (s + n + n)) none (hc W (jx_up G2 a (.inr (10, sv_fs (sn_S kind hot work from_ am n fd ff) nx (nx + 1)))) (nx + 2) (s + n + n)) := by
    intro d
    induction d with
    | zero =>
      intro k hk G hG u14
      obtain rfl : k = n := by omega
      refine ⟨G, hG, ?_⟩
      refine jx_T.step (pc' := 39) (st' := [_]) rfl rfl ?_
      refine jx_T.step (pc' := 41) (st' := [_, _]) rfl rfl ?_
      refine cl.bc rfl (jx_br_ge _ _) (fun _ => ?_) (fun zq => absurd (Int32.le_refl _) zq)
      exact fin G hG u14
    | succ d ih =>
      intro k hk G hG u14
      have hi : (if hot = 0 then n - 1 - k else k) < n := by by_cases e : hot = 0 <;> simp only [e, if_true, if_false] <;> omega
      have gp : 35 ≤ p ∧ G p = some (.inl (0, n, .inl fd)) := ⟨hp.1, (hG.2.2 p (by omega) (by omega)).trans hp.2⟩
      have gq : 35 ≤ q ∧ G q = some (.inl (0, n, .inl ff)) := ⟨hq.1, (hG.2.2 q (by omega) (by omega)).trans hq.2⟩
      obtain ⟨G1, e1⟩ : ∃ G1, G1 = jx_up G nx (.inl (0, n, .inl (sn_dn hot n fd (k + 1)))) := ⟨_, rfl⟩
      have g1 : G1 (nx + 1) = some (.inl (0, n, .inl (sn_dn hot n ff k))) := by rw [e1]; exact (jx_up_ne (by omega)).trans hG.2.1
      have gp1 : 35 ≤ p ∧ G1 p = some (.inl (0, n, .inl fd)) := ⟨hp.1, by rw [e1]; exact (jx_up_ne (by omega)).trans gp.2⟩
      have gq1 : 35 ≤ q ∧ G1 q = some (.inl (0, n, .inl ff)) := ⟨hq.1, by rw [e1]; exact (jx_up_ne (by omega)).trans gq.2⟩
      obtain ⟨G2, e2⟩ : ∃ G2, G2 = jx_up G1 (nx + 1) (.inl (0, n, .inl (sn_dn hot n ff (k + 1)))) := ⟨_, rfl⟩
      have gp2 : 35 ≤ p ∧ G2 p = some (.inl (0, n, .inl fd)) := ⟨hp.1, by rw [e2]; exact (jx_up_ne (by omega)).trans gp1.2⟩
      have gq2 : 35 ≤ q ∧ G2 q = some (.inl (0, n, .inl ff)) := ⟨hq.1, by rw [e2]; exact (jx_up_ne (by omega)).trans gq1.2⟩
      obtain ⟨G3, h3, t⟩ := ih (k + 1) (by omega) G2 ⟨by rw [e2, e1]; exact (jx_up_ne (by omega)).trans jx_up_eq, by rw [e2]; exact jx_up_eq, fun b b1 b2 => by rw [e2, e1]; exact (jx_up_ne b2).trans ((jx_up_ne b1).trans (hG.2.2 b b1 b2))⟩ (.int (nI (if hot = 0 then n - 1 - k else k)))
      refine ⟨G3, h3, ?_⟩
      have body : jx_T 79 60 [.ref a, .int kind, .int hot, .int work, .int from_, .int am, .ref p, .ref q, .int (nI n), .ref nx, .ref (nx + 1), .int (sn_far fd k), .int (sn_sum am fd ff k), .int (nI k), u14] [.int (nI (if hot = 0 then n - 1 - k else k))] (hc W G (nx + 2) (s + n + n)) none (hc W (jx_up G3 a (.inr (10, sv_fs (sn_S kind hot work from_ am n fd ff) nx (nx + 1)))) (nx + 2) (s + n + n)) := by
        refine jx_T.step (pc' := 62) (ls' := [_, _, _, _, _, _, _, _, _, _, _, _, _, _, _]) (st' := []) rfl rfl ?_
        refine jx_T.step (pc' := 64) (st' := [_]) rfl rfl ?_
        refine jx_T.step (pc' := 66) (st' := [_, _]) rfl rfl ?_
        refine jx_T.step (pc' := 68) (st' := [_, _, _]) rfl rfl ?_
        refine jx_T.step (pc' := 70) (st' := [_, _, _, _]) rfl rfl ?_
        refine cl.ialdi (gp).1 (gp).2 rfl (rf_ix (by omega) (by omega)) ?_
        rw [nI_clamp (by omega)]
        refine cl.iasti hn hG.1 rfl (rf_ix hi (by omega)) ?_
        rw [nI_clamp (by omega), sn_dn_s hot n fd k (by omega), ← e1]
        refine jx_T.step (pc' := 74) (st' := [_]) rfl rfl ?_
        refine jx_T.step (pc' := 76) (st' := [_, _]) rfl rfl ?_
        refine jx_T.step (pc' := 78) (st' := [_, _, _]) rfl rfl ?_
        refine jx_T.step (pc' := 80) (st' := [_, _, _, _]) rfl rfl ?_
        refine cl.ialdi (gq1).1 (gq1).2 rfl (rf_ix (by omega) (by omega)) ?_
        rw [nI_clamp (by omega)]
        refine cl.iasti l1 g1 rfl (rf_ix hi (by omega)) ?_
        rw [nI_clamp (by omega), sn_dn_s hot n ff k (by omega), ← e2]
        refine jx_T.step (pc' := 84) (st' := [_]) rfl rfl ?_
        refine jx_T.step (pc' := 86) (st' := [_, _]) rfl rfl ?_
        refine jx_T.step (pc' := 88) (st' := [_, _, _]) rfl rfl ?_
        refine cl.ialdi (gp2).1 (gp2).2 rfl (rf_ix (by omega) (by omega)) ?_
        rw [nI_clamp (by omega)]
        refine jx_T.step (pc' := 90) (st' := [_]) rfl rfl ?_
        refine jx_T.step (pc' := 92) (ls' := [_, _, _, _, _, _, _, _, _, _, _, _, _, _, _]) (st' := []) rfl rfl ?_
        refine jx_T.step (pc' := 94) (st' := [_]) rfl rfl ?_
        refine jx_T.step (pc' := 96) (st' := [_, _]) rfl rfl ?_
        refine jx_T.step (pc' := 98) (st' := [_, _, _]) rfl rfl ?_
        refine cl.ialdi (gp2).1 (gp2).2 rfl (rf_ix (by omega) (by omega)) ?_
        rw [nI_clamp (by omega)]
        refine jx_T.step (pc' := 101) (st' := [_, _, _]) rfl rfl ?_
        refine jx_T.step (pc' := 103) (st' := [_, _, _, _]) rfl rfl ?_
        refine cl.ialdi (gq2).1 (gq2).2 rfl (rf_ix (by omega) (by omega)) ?_
        rw [nI_clamp (by omega)]
        refine jx_T.step (pc' := 105) (st' := [_, _]) rfl rfl ?_
        refine jx_T.step (pc' := 106) (st' := [_]) rfl rfl ?_
        refine jx_T.step (pc' := 108) (ls' := [_, _, _, _, _, _, _, _, _, _, _, _, _, _, _]) (st' := []) rfl rfl ?_
        refine jx_T.step (pc' := 111) (ls' := [_, _, _, _, _, _, _, _, _, _, _, _, _, _, _]) (st' := []) rfl rfl ?_
        refine jx_T.step (pc' := 37) (st' := []) rfl rfl ?_
        rw [nI_1]
        exact t
      refine jx_T.step (pc' := 39) (st' := [_]) rfl rfl ?_
      refine jx_T.step (pc' := 41) (st' := [_, _]) rfl rfl ?_
      refine cl.bc rfl (jx_br_ge _ _) (fun zq => absurd zq (nI_ge (by omega) (by omega))) (fun _ => ?_)
      refine jx_T.step (pc' := 45) (st' := [_]) rfl rfl ?_
      by_cases z : hot = 0
      · rw [if_pos z] at body
        refine cl.br rfl (jx_br_eq _ _) (fun _ => ?_) (fun zq => absurd (z) zq)
        refine jx_T.step (pc' := 55) (st' := [_]) rfl rfl ?_
        refine jx_T.step (pc' := 56) (st' := [_, _]) rfl rfl ?_
        refine jx_T.step (pc' := 57) (st' := [_]) rfl rfl ?_
        rw [rf_lit 1, rf_nsub (by omega)]
        refine jx_T.step (pc' := 59) (st' := [_, _]) rfl rfl ?_
        refine jx_T.step (pc' := 60) (st' := [_]) rfl rfl ?_
        rw [rf_nsub (by omega)]
        exact body
      · rw [if_neg z] at body
        refine cl.br rfl (jx_br_eq _ _) (fun zq => absurd zq (z)) (fun _ => ?_)
        refine jx_T.step (pc' := 50) (st' := [_]) rfl rfl ?_
        refine jx_T.step (pc' := 60) (st' := [_]) rfl rfl ?_
        exact body
  obtain ⟨G0, e0⟩ : ∃ G0, G0 = jx_up (jx_up g nx (.inl (0, n, .inl (fun _ => 0)))) (nx + 1) (.inl (0, n, .inl (fun _ => 0))) := ⟨_, rfl⟩
  obtain ⟨G2, h2, t⟩ := loop n 0 (by omega) G0 ⟨by rw [e0, sn_dn_0]; exact (jx_up_ne (by omega)).trans jx_up_eq, by rw [e0, sn_dn_0]; exact jx_up_eq, fun b b1 b2 => by rw [e0]; exact (jx_up_ne b2).trans (jx_up_ne b1)⟩ (.retAddr 0)
  refine ⟨jx_up G2 a (.inr (10, sv_fs (sn_S kind hot work from_ am n fd ff) nx (nx + 1))), ?_, ⟨nx, nx + 1, ⟨ha.1, jx_up_eq⟩, ⟨hn, (jx_up_ne (by omega)).trans h2.1⟩, ⟨l1, (jx_up_ne (by omega)).trans h2.2.1⟩⟩, fun b e hb he => ?_, fun b hb => ?_⟩
  · show jx_T 79 0 [.ref a, .int kind, .int hot, .int work, .int from_, .int am, .ref p, .ref q, .retAddr 0, .retAddr 0, .retAddr 0, .retAddr 0, .retAddr 0, .retAddr 0, .retAddr 0] [] _ _ _
    refine jx_T.step (pc' := 1) (st' := [_]) rfl rfl ?_
    refine jx_T.step (pc' := 4) (st' := []) rfl rfl ?_
    refine jx_T.step (pc' := 6) (st' := [_]) rfl rfl ?_
    refine cl.aleni (hp).1 (hp).2 rfl (Or.inl (by decide)) ?_
    refine jx_T.step (pc' := 9) (st' := [_, _]) rfl rfl ?_
    refine cl.aleni (hq).1 (hq).2 rfl (Or.inl (by decide)) ?_
    refine cl.s2I rfl (by decide) rfl (Nat.le_of_ble_eq_true rfl) (Nat.le_of_ble_eq_true rfl) (kc_min _ _ _) ?_
    rw [if_neg Int32.lt_irrefl]
    refine jx_T.step (pc' := 15) (ls' := [_, _, _, _, _, _, _, _, _, _, _, _, _, _, _]) (st' := []) rfl rfl ?_
    refine jx_T.step (pc' := 17) (st' := [_]) rfl rfl ?_
    refine cl.newI hn rfl ⟨nI_pos (by omega), by rw [nI_clamp (by omega)]; omega⟩ ?_
    rw [nI_clamp (by omega)]
    refine jx_T.step (pc' := 21) (ls' := [_, _, _, _, _, _, _, _, _, _, _, _, _, _, _]) (st' := []) rfl rfl ?_
    refine jx_T.step (pc' := 23) (st' := [_]) rfl rfl ?_
    refine cl.newI l1 rfl ⟨nI_pos (by omega), by rw [nI_clamp (by omega)]; omega⟩ ?_
    rw [nI_clamp (by omega), ← e0]
    refine jx_T.step (pc' := 27) (ls' := [_, _, _, _, _, _, _, _, _, _, _, _, _, _, _]) (st' := []) rfl rfl ?_
    refine jx_T.step (pc' := 28) (st' := [_]) rfl rfl ?_
    refine jx_T.step (pc' := 30) (ls' := [_, _, _, _, _, _, _, _, _, _, _, _, _, _, _]) (st' := []) rfl rfl ?_
    refine jx_T.step (pc' := 32) (st' := [_]) rfl rfl ?_
    refine jx_T.step (pc' := 34) (ls' := [_, _, _, _, _, _, _, _, _, _, _, _, _, _, _]) (st' := []) rfl rfl ?_
    refine jx_T.step (pc' := 35) (st' := [_]) rfl rfl ?_
    refine jx_T.step (pc' := 37) (ls' := [_, _, _, _, _, _, _, _, _, _, _, _, _, _, _]) (st' := []) rfl rfl ?_
    exact t
  · have := old he
    exact (jx_up_ne hb).trans ((h2.2.2 b (by omega) (by omega)).trans he)
  · exact (jx_up_ne (by omega)).trans ((h2.2.2 b (by omega) (by omega)).trans (hf b (by omega)))
end
