/-! call: price -/
section
variable {N : Nat → Int32} {T : tv}
theorem pC_e (A : List gA) {e : Nat} (he : e < A.length) : pC A (2 * e) = (A.getD e gd).2.2.2.toInt ∧ pT A (2 * e) = (A.getD e gd).1 ∧ pY A (2 * e) = (A.getD e gd).2.1 := by
  have q := (hv_get A e he).1
  refine ⟨?_, ?_, ?_⟩
  · show ((hv A).getD (2 * e) hd).2.2.toInt = _
    rw [q]
  · show ((hv A).getD (2 * e) hd).1 = _
    rw [q]
  · show ((hv A).getD (2 * e) hd).2.1 = _
    rw [q]
theorem lf_full (t : tls T N) {ρ : Nat → Int64} (ok : fl_ok (gr_A N T.2.1).length (pcap (gr_A N T.2.1)) (pr ρ)) : ¬ lf_b (hv (gr_A N T.2.1)) ρ (gr_A N T.2.1).length 0 = true ↔ ∀ e, e < (gr_A N T.2.1).length → pC (gr_A N T.2.1) (2 * e) = -1000000 → pr ρ (2 * e) = 0 := by
  rw [lf_b_iff]
  constructor
  · intro h e he hc0
    by_cases z : pr ρ (2 * e) = 0
    · exact z
    · exfalso
      have o := ok e he
      refine h ⟨e, he, ?_, ?_⟩
      · rw [Nat.zero_add]
        apply Int32.toInt_inj.mp
        exact hc0
      · rw [Nat.zero_add, i64_pos]
        have : pr ρ (2 * e) = (ρ (2 * e)).toInt := rfl
        omega
  · rintro h ⟨e, he, h1, h2⟩
    rw [Nat.zero_add] at h1 h2
    have q := h e he (by
      show ((hv (gr_A N T.2.1)).getD (2 * e) hd).2.2.toInt = _
      rw [h1]
      rfl)
    rw [i64_pos] at h2
    have : pr ρ (2 * e) = (ρ (2 * e)).toInt := rfl
    omega
theorem ref_tyc (t : tls T N) : ∀ e, e < (gr_A N T.2.1).length → (pT (gr_A N T.2.1) (2 * e) = 2880 ∧ pY (gr_A N T.2.1) (2 * e) < 2880 ∧ (pC (gr_A N T.2.1) (2 * e) = -1000000 ∨ 0 ≤ pC (gr_A N T.2.1) (2 * e))) ∨ (pT (gr_A N T.2.1) (2 * e) < 2880 ∧ pY (gr_A N T.2.1) (2 * e) = 2881 ∧ (pC (gr_A N T.2.1) (2 * e) = -1000000 ∨ (0 ≤ pC (gr_A N T.2.1) (2 * e) ∧ pC (gr_A N T.2.1) (2 * e) ≤ 1000))) ∨ (pT (gr_A N T.2.1) (2 * e) < 2880 ∧ pY (gr_A N T.2.1) (2 * e) < 2880 ∧ pC (gr_A N T.2.1) (2 * e) = 0) := by
  intro e he
  obtain ⟨c, p, y⟩ := pC_e (gr_A N T.2.1) he
  rw [c, p, y]
  obtain ⟨-, w⟩ := ref_arc t (getD_mem he)
  generalize (gr_A N T.2.1).getD e gd = a at *
  rcases w with ⟨q1, q2, q3, q4, q5⟩ | ⟨q1, q2, q3, q4, q5⟩ | ⟨q1, q2, q3, q4⟩
  · have g := gcost_i t.k q5
    refine Or.inl ⟨q1, q2, ?_⟩
    rw [q4, g.1]
    split
    · rename_i z
      have := g.2 z
      exact Or.inr (by omega)
    · exact Or.inl rfl
  · have g := gcost_i t.k q5
    refine Or.inr (Or.inl ⟨q1, q2, ?_⟩)
    rw [q4, g.1]
    split
    · rename_i z
      have := g.2 z
      exact Or.inr (by omega)
    · exact Or.inl rfl
  · refine Or.inr (Or.inr ⟨q1, q2, ?_⟩)
    rw [q4]
    rfl
theorem ref_c1000 (t : tls T N) : ∀ e, e < (gr_A N T.2.1).length → pC (gr_A N T.2.1) (2 * e) ≤ 1000 := by
  intro e he
  rw [(pC_e (gr_A N T.2.1) he).1]
  obtain ⟨-, w⟩ := ref_arc t (getD_mem he)
  generalize (gr_A N T.2.1).getD e gd = a at *
  rcases w with ⟨q1, q2, q3, q4, q5⟩ | ⟨q1, q2, q3, q4, q5⟩ | ⟨q1, q2, q3, q4⟩
  · have g := gcost_i t.k q5
    rw [q4, g.1]
    split
    · rename_i z
      have := g.2 z
      omega
    · decide
  · have g := gcost_i t.k q5
    rw [q4, g.1]
    split
    · rename_i z
      have := g.2 z
      omega
    · decide
  · rw [q4]
    decide
theorem i64_sum (x : Int) (m : Int64) : Int64.ofInt x + 1000000 * m = Int64.ofInt (x + 1000000 * m.toInt) := by
  rw [Int64.ofInt_add, Int64.ofInt_mul, Int64.ofInt_toInt]
  rfl
theorem price_eq (t : tls T N) {ρ : Nat → Int64} {c v : Int64} (fin : pr_fin (gr_A N T.2.1) ρ c) (out : nq_out (pz_A T) (gI N T.2.1 + wI N T.2.1) v) : v = if lf_b (hv (gr_A N T.2.1)) ρ (gr_A N T.2.1).length 0 = true then -1 else c + 1000000 * pr_must N T.2.1 := by
  obtain ⟨D2, P2, ⟨ok2, dv2, ec⟩, pv2, hP2⟩ := fin
  obtain ⟨r1, D1, ok1, dv1, alt⟩ := out
  have hp2 := pr_pair (ref_wf t)
  have hp1 := pr_pair (cls_wf t)
  rcases alt with ⟨hD, hvv, P1, pv1⟩ | ⟨hD, hvv, V, V0, V1, hV⟩
  · rw [hD] at dv1
    obtain ⟨r2, D3, ok3, dv3, c3, full3⟩ := price_F t ok1 dv1
    have full := opt_full hp2 (ref_tyc t) (ref_c1000 t) ok2 ok3 dv2 dv3 pv2 hP2 full3
    have nl := (lf_full t ok2).mpr full
    obtain ⟨r4, ok4, dv4, c4⟩ := price_G t ok2 dv2 full
    have l1 := fl_opt hp2 ok2 ok3 dv2 dv3 pv2 (Or.inr hP2)
    have l2 := fl_opt hp1 ok1 ok4 dv1 dv4 pv1 (Or.inl rfl)
    rw [if_neg nl, hvv, ec, i64_sum, must_i t _ (Nat.le_refl _)]
    refine congrArg Int64.ofInt ?_
    omega
  · have yes : lf_b (hv (gr_A N T.2.1)) ρ (gr_A N T.2.1).length 0 = true := by
      by_cases z : lf_b (hv (gr_A N T.2.1)) ρ (gr_A N T.2.1).length 0 = true
      · exact z
      · exfalso
        have full := (lf_full t ok2).mp z
        obtain ⟨r4, ok4, dv4, -⟩ := price_G t ok2 dv2 full
        have s1 := dv1 (fun v => zi (V v = true))
        have s2 := dv4 (fun v => zi (V v = true))
        have v0 : zi (V 0 = true) = 1 := if_pos V0
        have v1 : zi (V 1 = true) = 0 := if_neg (by rw [V1]; decide)
        have le : fl_wt (pz_A T).length (fun e => zi (V (pY (pz_A T) (2 * e)) = true) - zi (V (pT (pz_A T) (2 * e)) = true)) r1 ≤ fl_wt (pz_A T).length (fun e => zi (V (pY (pz_A T) (2 * e)) = true) - zi (V (pT (pz_A T) (2 * e)) = true)) r4 := by
          refine fl_sum_le _ (fun e he => ?_)
          have o1 := ok1 e he
          have o4 := ok4 e he
          obtain ⟨h1, h2, h3⟩ := hp1 e he
          have w1 := hV (2 * e) (by omega)
          have w2 := hV (2 * e + 1) (by omega)
          rw [h1, h2] at w2
          show r1 (2 * e + 1) * ((if V (pY (pz_A T) (2 * e)) = true then 1 else 0) - (if V (pT (pz_A T) (2 * e)) = true then 1 else 0)) ≤ r4 (2 * e + 1) * ((if V (pY (pz_A T) (2 * e)) = true then 1 else 0) - (if V (pT (pz_A T) (2 * e)) = true then 1 else 0))
          by_cases a : V (pT (pz_A T) (2 * e)) = true
          · by_cases b : V (pY (pz_A T) (2 * e)) = true
            · rw [if_pos a, if_pos b]
              omega
            · rw [if_pos a, if_neg b]
              have : r1 (2 * e) = 0 := by
                by_cases x : r1 (2 * e) = 0
                · exact x
                · exact absurd (w1 x a) b
              omega
          · by_cases b : V (pY (pz_A T) (2 * e)) = true
            · rw [if_neg a, if_pos b]
              have : r1 (2 * e + 1) = 0 := by
                by_cases x : r1 (2 * e + 1) = 0
                · exact x
                · exact absurd (w2 x b) a
              omega
            · rw [if_neg a, if_neg b]
              omega
        have s1' : fl_wt (pz_A T).length (fun e => zi (V (pY (pz_A T) (2 * e)) = true) - zi (V (pT (pz_A T) (2 * e)) = true)) r1 = D1 * (zi (V 1 = true) - zi (V 0 = true)) := s1
        have s2' : fl_wt (pz_A T).length (fun e => zi (V (pY (pz_A T) (2 * e)) = true) - zi (V (pT (pz_A T) (2 * e)) = true)) r4 = (gI N T.2.1 + wI N T.2.1) * (zi (V 1 = true) - zi (V 0 = true)) := s2
        rw [s1', s2', v0, v1] at le
        omega
    rw [if_pos yes, hvv]
end
section
variable {L : Nat} {xs : Nat → Int32}
theorem op_price : lw_o (lw_K L xs) L xs 123 194 [] false := by
  intro k h p
  obtain ⟨W, g, nx, s, X, R, B, D, U, x, T, I⟩ := p
  obtain ⟨a, a1, a2, a3⟩ := I.asked
  have ea : (nI a).toInt = a := nI_toInt (by omega)
  by_cases z : a = 40
  · have t := kc_price_no (W := W) (g := g) (nx := nx) (s := s) (by rw [a2, z]; decide)
    have r := rc_price_no 56 R (by rw [a3, z])
    exact lw_ask I (Or.inr ⟨rfl, _, rfl⟩) t kq_f.rf r rf_J.rf
  · have w1 := w_i I.tl
    obtain ⟨W2, v, t, f, out⟩ := kc_price (W := W) (g := g) (nx := nx) (s := s) (by rw [a2, Int32.le_iff_toInt_le, ea]; show ¬ (40 : Int) ≤ a; omega) I.cn (cls_nq I.tl) w1.1
    obtain ⟨R2, ρ, c, r, J, fin⟩ := rc_price 56 I.pre (show a < 40 by omega) a3 (ref_wf I.tl) _ (ref_pot I.tl) rfl (by decide)
    rw [← price_eq I.tl fin out] at r
    refine lw_gen I (Or.inr ⟨rfl, _, rfl⟩) t (fun y hy => ?_) f.2.2 r J.1 J.2.1 (fun k hk => ?_) J.2.2.2.2 ⟨a + 1, by omega, ?_, ?_⟩ (fun w => ?_)
    · rw [f.1 y]
      exact if_neg (fun q => hy q.2)
    · rw [J.2.2.1 k (Or.inl hk)]
      exact if_neg (by omega)
    · rw [f.1 9]
      have e9 : (cw_I W 1 9 (W.2.2.1 1 9 + 1)).2.2.1 1 9 = W.2.2.1 1 9 + 1 := by simp [cw_I]
      rw [e9, a2]
      exact nI_add a 1
    · rw [J.2.2.1 39 (Or.inr (Or.inr rfl))]
      rfl
    · have e := I.found w
      have e34 : W2.2.1 34 = W.2.1 34 := f.2.1
      rw [e34, e]
      unfold rf_fin
      rw [J.2.2.1 24 (Or.inr (Or.inl rfl)), J.2.2.2.1 21 (by decide), J.2.2.2.1 22 (by decide), J.2.2.2.1 23 (by decide)]
      rfl
end
