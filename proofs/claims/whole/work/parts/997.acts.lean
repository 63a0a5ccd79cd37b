/-! acts of both, questions of both -/
section
variable {L : Nat} {xs : Nat → Int32} {k : Nat} {h : jx_H} {W : cw} {g : Nat → Option jx_E} {nx s : Nat} {X : Nat → Option jx_E} {R : rf_R} {B D U x : Nat} {T : tv}
theorem rg_act {y : Nat} {T2 : tv} {N2 : Nat → Int32} {g2 : Nat → Option jx_E} (hB : B < 201) (hU : D + U ≤ 200) (r : rg W g R B (D + U)) (hg : ge g g2) (im : im_sta g2 y T2) (tl : tls T2 N2) : rg (kw_act W B D y) g2 (rf_acts (rf_sA R 0 N2) B D) (kB B D) (kD D + 0) := by
  intro j hj
  unfold kw_act rf_acts kB kD at *
  by_cases z : D < 200
  · rw [if_pos z] at hj ⊢
    rw [if_pos z, if_neg (show ¬ D = 200 by omega)]
    have er : ∀ c, c < 822 → (rf_sA (rf_sI (rf_sI (rf_sA R 0 N2) 4 0) 3 (nI (D + 1))) 1 (rf_put ((rf_sA R 0 N2).1 1) ((rf_sA R 0 N2).1 0) (rf_pl B (D + 1)) 822)).1 1 (rf_pl B j + c) = if (B + j) % 201 = (B + (D + 1)) % 201 then N2 c else R.1 1 (rf_pl B j + c) := by
      intro c hc
      rw [rf_sA_at]
      exact rf_put_at _ _ _ _ c hc
    by_cases e : j = D + 1
    · refine ⟨y, T2, ?_, im, tl.c (fun c hc => ?_)⟩
      · show va_up W.2.2.2.2.1 ((B + (D + 1)) % 201) (some y) ((B + j) % 201) = some y
        rw [e]
        unfold va_up
        rw [if_pos rfl]
      · rw [er c hc, if_pos (by rw [e])]
    · obtain ⟨y1, T1, a1, a2, a3⟩ := r j (by omega)
      have ne : ¬ (B + j) % 201 = (B + (D + 1)) % 201 := by omega
      refine ⟨y1, T1, ?_, a2.ge hg, a3.c (fun c hc => ?_)⟩
      · show va_up W.2.2.2.2.1 ((B + (D + 1)) % 201) (some y) ((B + j) % 201) = some y1
        unfold va_up
        rw [if_neg ne]
        exact a1
      · rw [er c hc, if_neg ne]
  · rw [if_neg z] at hj ⊢
    obtain rfl : D = 200 := by omega
    rw [if_neg (by decide), if_pos rfl]
    have er : ∀ c, c < 822 → (rf_sA (rf_sI (rf_sI (rf_sA R 0 N2) 4 0) 2 (nI ((B + 1) % 201))) 1 (rf_put ((rf_sA R 0 N2).1 1) ((rf_sA R 0 N2).1 0) (rf_pl ((B + 1) % 201) 200) 822)).1 1 (rf_pl ((B + 1) % 201) j + c) = if ((B + 1) % 201 + j) % 201 = ((B + 1) % 201 + 200) % 201 then N2 c else R.1 1 (rf_pl ((B + 1) % 201) j + c) := by
      intro c hc
      rw [rf_sA_at]
      exact rf_put_at _ _ _ _ c hc
    by_cases e : j = 200
    · refine ⟨y, T2, ?_, im, tl.c (fun c hc => ?_)⟩
      · show va_up W.2.2.2.2.1 (((B + 1) % 201 + 200) % 201) (some y) (((B + 1) % 201 + j) % 201) = some y
        rw [e]
        unfold va_up
        rw [if_pos rfl]
      · rw [er c hc, if_pos (by rw [e])]
    · obtain ⟨y1, T1, a1, a2, a3⟩ := r (j + 1) (by omega)
      have ne : ¬ ((B + 1) % 201 + j) % 201 = ((B + 1) % 201 + 200) % 201 := by omega
      have eq : ((B + 1) % 201 + j) % 201 = (B + (j + 1)) % 201 := by omega
      refine ⟨y1, T1, ?_, a2.ge hg, a3.c (fun c hc => ?_)⟩
      · show va_up W.2.2.2.2.1 (((B + 1) % 201 + 200) % 201) (some y) (((B + 1) % 201 + j) % 201) = some y1
        unfold va_up
        rw [if_neg ne, eq]
        exact a1
      · rw [er c hc, if_neg ne]
        unfold rf_pl
        rw [eq]
theorem rf_acts_at (R : rf_R) (N2 : Nat → Int32) (B D : Nat) (hD : D ≤ 200) (e2 : R.2.2.1 2 = nI B) (e3 : R.2.2.1 3 = nI D) : (rf_acts (rf_sA R 0 N2) B D).1 0 = N2 ∧ (rf_acts (rf_sA R 0 N2) B D).2.2.1 2 = nI (kB B D) ∧ (rf_acts (rf_sA R 0 N2) B D).2.2.1 3 = nI (kD D) ∧ (rf_acts (rf_sA R 0 N2) B D).2.2.1 4 = nI 0 ∧ (∀ y, 5 ≤ y → (rf_acts (rf_sA R 0 N2) B D).2.2.1 y = R.2.2.1 y) ∧ (rf_acts (rf_sA R 0 N2) B D).2.2.2 = R.2.2.2 ∧ (rf_acts (rf_sA R 0 N2) B D).1 28 = R.1 28 := by
  unfold rf_acts kB kD
  by_cases z : D < 200
  · rw [if_neg (show ¬ D = 200 by omega), if_pos z, if_pos z]
    refine ⟨rfl, ?_, rfl, rfl, fun y hy => ?_, rfl, rfl⟩
    · exact e2
    · show (if y = 3 then _ else if y = 4 then _ else R.2.2.1 y) = _
      rw [if_neg (by omega), if_neg (by omega)]
  · obtain rfl : D = 200 := by omega
    rw [if_pos rfl, if_neg z, if_neg z]
    refine ⟨rfl, rfl, ?_, rfl, fun y hy => ?_, rfl, rfl⟩
    · exact e3
    · show (if y = 2 then _ else if y = 4 then _ else R.2.2.1 y) = _
      rw [if_neg (by omega), if_neg (by omega)]
theorem kw_act_at (W : cw) (B D y : Nat) : (kw_act W B D y).2.2.1 1 3 = nI 0 ∧ (kw_act W B D y).2.2.1 1 9 = W.2.2.1 1 9 ∧ (kw_act W B D y).2.1 = W.2.1 := by
  unfold kw_act
  by_cases z : D < 200
  · rw [if_pos z]
    exact ⟨rfl, rfl, rfl⟩
  · rw [if_neg z]
    exact ⟨rfl, rfl, rfl⟩
theorem lw_act (I : lw_I L xs k h W g nx s X R B D U x T) {mc mr : Nat} {args : List Value} {y : Nat} {T2 : tv} {N2 : Nat → Int32} {g2 : Nat → Option jx_E} {nx2 s2 : Nat} (t : jx_T mc 0 (jx_ent mc (.ref 1 :: args)) [] (hc W g nx s) (some (.int 0)) (hc (kw_act W B D y) g2 nx2 s2)) (hg : ge g g2) (hf : ∀ a, nx2 ≤ a → g2 a = none) (n2 : kn_at (kw_act W B D y) g2 (kB B D) (kD D) y T2) (c : rf_C mr 56 (.ref 56 :: args) R (some (.int 0)) (rf_acts (rf_sA R 0 N2) B D)) (tl : tls T2 N2) (hx : nx ≤ nx2 ∧ nx2 ≤ nx + 100) (hs : s2 ≤ s + 400) : lw_C (lw_K L xs) L xs k h mc mr args true := by
  obtain ⟨t1, ho, A1⟩ := I.cls t
  obtain ⟨X2, t2, o2, A2⟩ := lw_ref ho I.only A1 c
  obtain ⟨k1, k2, k3⟩ := kw_act_at W B D y
  obtain ⟨r1, r2, r3, r4, r5, r6, r7⟩ := rf_acts_at R N2 B D I.now.1.2.1 I.e2 I.e3
  have nx78 := I.nx78
  have h1 := I.cells
  have h2 := I.slots
  have c2 : nx2 ≤ 78 + 100 * (k + 1) := by omega
  have s3 : s2 ≤ k1_s + kz129 + 400 * (k + 1) := Nat.le_trans hs (Nat.le_trans (Nat.add_le_add_right h2 400) (Nat.le_of_eq (by rw [Nat.mul_add, Nat.mul_one, Nat.add_assoc])))
  have sc2 : lw_sc L xs (ju (hc (kw_act W B D y) g2 nx2 s2) X) := ⟨by rw [ju_0 (Or.inr rfl), hg _ _ I.script], ⟨_, rfl⟩, ⟨_, A1.1⟩⟩
  obtain ⟨a, a1, a2, a3⟩ := I.asked
  have hD2 : kD D + 0 ≤ 200 := by
    have := n2.1.2.1
    omega
  refine ⟨.int 0, _, _, Or.inl ⟨rfl, 0, rfl⟩, t1, sc2, t2, kw_act W B D y, g2, nx2, s2, X2, rf_acts (rf_sA R 0 N2) B D, kB B D, kD D, 0, y, T2, rfl, by omega, hf, ho, o2, hg _ _ I.script, A2, n2, r1.symm ▸ tl, r2, r3, r4, k1, hD2, rg_act I.now.1.1 I.hU I.ring hg n2.2.1 tl, ⟨a, a1, k2.trans a2, (r5 39 (by decide)).trans a3⟩, fun w => ?_, (r5 6 (by decide)).trans I.e6, (congrFun r7 0).trans I.e28, c2, s3⟩
  rw [k3, I.found w]
  unfold rf_fin
  rw [r5 24 (by decide), r6]
/-- a question: the works keep their state, the reference what counts -/
theorem kq_f.at_ {W W2 : cw} {g : Nat → Option jx_E} {B D x : Nat} {T : tv} (f : kq_f W W2) (n : kn_at W g B D x T) : kn_at W2 g B D x T := by
  obtain ⟨⟨a, b, c, d, e⟩, i⟩ := n
  exact ⟨⟨a, b, by rw [f.1]; exact c, by rw [f.1]; exact d, by rw [f.2.2]; exact e⟩, i⟩
theorem lw_ask (I : lw_I L xs k h W g nx s X R B D U x T) {mc mr : Nat} {args : List Value} {v : Value} {ty : Bool} (hv : (ty = true ∧ ∃ x : Int32, v = .int x) ∨ (ty = false ∧ ∃ x : Int64, v = .long x)) {W2 : cw} {R2 : rf_R} (t : jx_T mc 0 (jx_ent mc (.ref 1 :: args)) [] (hc W g nx s) (some v) (hc W2 g nx s)) (f : kq_f W W2) (c : rf_C mr 56 (.ref 56 :: args) R (some v) R2) (J : rf_J R R2) : lw_C (lw_K L xs) L xs k h mc mr args ty := by
  obtain ⟨t1, ho, A1⟩ := I.cls t
  obtain ⟨X2, t2, o2, A2⟩ := lw_ref ho I.only A1 c
  have h1 := I.cells
  have h2 := I.slots
  obtain ⟨j1, j2, j3, j4, j5⟩ := J
  have sc2 : lw_sc L xs (ju (hc W2 g nx s) X) := ⟨by rw [ju_0 (Or.inr rfl), I.script], ⟨_, rfl⟩, ⟨_, A1.1⟩⟩
  obtain ⟨a, a1, a2, a3⟩ := I.asked
  refine ⟨v, _, _, hv, t1, sc2, t2, W2, g, nx, s, X2, R2, B, D, U, x, T, rfl, I.nx78, I.free, ho, o2, I.script, A2, f.at_ I.now, by rw [j1]; exact I.tl, by rw [j3 2 (by decide)]; exact I.e2, by rw [j3 3 (by decide)]; exact I.e3, by rw [j3 4 (by decide)]; exact I.e4, by rw [f.1]; exact I.eU, I.hU, fun j hj => ?_, ⟨a, a1, by rw [f.1]; exact a2, by rw [j3 39 (by decide)]; exact a3⟩, fun w => ?_, by rw [j3 6 (by decide)]; exact I.e6, by rw [j5]; exact I.e28, by omega, by omega⟩
  · obtain ⟨y, Tj, b1, b2, b3⟩ := I.ring j hj
    exact ⟨y, Tj, by rw [f.2.2]; exact b1, b2, by rw [j2]; exact b3⟩
  · rw [f.2.1, I.found w]
    unfold rf_fin
    rw [j3 24 (by decide), j4 21 (by decide), j4 22 (by decide), j4 23 (by decide)]
end
