/-! the reference's side: flows to plans and back, its cheapest flow is full if any is -/
theorem lf_b_iff (H : List hA) (ρ : Nat → Int64) : ∀ d i, lf_b H ρ d i = true ↔ ∃ k, k < d ∧ (H.getD (i + 2 * k) hd).2.2 = -1000000 ∧ 0 < ρ (i + 2 * k)
  | 0, i => ⟨fun h => absurd h (by unfold lf_b; decide), fun ⟨_, h, _⟩ => absurd h (by omega)⟩
  | d + 1, i => by
    unfold lf_b
    by_cases z : (H.getD i hd).2.2 = -1000000 ∧ 0 < ρ i
    · rw [if_pos z]
      exact ⟨fun _ => ⟨0, by omega, z⟩, fun _ => rfl⟩
    · rw [if_neg z, lf_b_iff H ρ d (i + 2)]
      constructor
      · rintro ⟨k, h1, h2⟩
        refine ⟨k + 1, by omega, ?_⟩
        rw [show i + 2 * (k + 1) = i + 2 + 2 * k by omega]
        exact h2
      · rintro ⟨k, h1, h2⟩
        cases k with
        | zero => exact absurd h2 z
        | succ k =>
          refine ⟨k, by omega, ?_⟩
          rw [show i + 2 + 2 * k = i + 2 * (k + 1) by omega]
          exact h2
section
variable {m : Nat} {T Y : Nat → Nat} {C cap r φ P : Nat → Int}
theorem opt_full (hp : fl_pair m T Y C) (ty : ∀ e, e < m → (T (2 * e) = 2880 ∧ Y (2 * e) < 2880 ∧ (C (2 * e) = -1000000 ∨ 0 ≤ C (2 * e))) ∨ (T (2 * e) < 2880 ∧ Y (2 * e) = 2881 ∧ (C (2 * e) = -1000000 ∨ (0 ≤ C (2 * e) ∧ C (2 * e) ≤ 1000))) ∨ (T (2 * e) < 2880 ∧ Y (2 * e) < 2880 ∧ C (2 * e) = 0)) (bd1 : ∀ e, e < m → C (2 * e) ≤ 1000) {D D2 : Int} (ok : fl_ok m cap r) (ok2 : fl_ok m cap φ) (dv : fl_div m T Y r 2880 2881 D) (dv2 : fl_div m T Y φ 2880 2881 D2) (pv : fl_pv m T Y C r P) (hP : P 2880 = P 2881) (full : ∀ e, e < m → C (2 * e) = -1000000 → φ (2 * e) = 0) : ∀ e, e < m → C (2 * e) = -1000000 → r (2 * e) = 0 := by
  intro e0 he0 hc0
  by_cases nz : r (2 * e0) = 0
  · exact nz
  · exfalso
    have o0 := ok e0 he0
    have p0 := ok2 e0 he0
    have f0 := full e0 he0 hc0
    have v0 := pv (2 * e0) (by omega) nz
    rcases ty e0 he0 with ⟨t1, t2, t3⟩ | ⟨t1, t2, t3⟩ | ⟨t1, t2, t3⟩
    · rw [t1, hc0] at v0
      have s1 := dv (fun v => zi (v < 2880 ∧ P v ≤ P 2880 - 1000000))
      have s2 := dv2 (fun v => zi (v < 2880 ∧ P v ≤ P 2880 - 1000000))
      have z0 : zi (2880 < 2880 ∧ P 2880 ≤ P 2880 - 1000000) = 0 := if_neg (by omega)
      have z1 : zi (2881 < 2880 ∧ P 2881 ≤ P 2880 - 1000000) = 0 := if_neg (by omega)
      simp only [z0, z1] at s1 s2
      rw [Int.sub_self, Int.mul_zero] at s1 s2
      have s3 : fl_sum (fun e => (φ (2 * e + 1) - r (2 * e + 1)) * (zi (Y (2 * e) < 2880 ∧ P (Y (2 * e)) ≤ P 2880 - 1000000) - zi (T (2 * e) < 2880 ∧ P (T (2 * e)) ≤ P 2880 - 1000000))) m = 0 := by
        have q : fl_sum (fun e => (φ (2 * e + 1) - r (2 * e + 1)) * (zi (Y (2 * e) < 2880 ∧ P (Y (2 * e)) ≤ P 2880 - 1000000) - zi (T (2 * e) < 2880 ∧ P (T (2 * e)) ≤ P 2880 - 1000000))) m = fl_sum (fun e => φ (2 * e + 1) * (zi (Y (2 * e) < 2880 ∧ P (Y (2 * e)) ≤ P 2880 - 1000000) - zi (T (2 * e) < 2880 ∧ P (T (2 * e)) ≤ P 2880 - 1000000)) - r (2 * e + 1) * (zi (Y (2 * e) < 2880 ∧ P (Y (2 * e)) ≤ P 2880 - 1000000) - zi (T (2 * e) < 2880 ∧ P (T (2 * e)) ≤ P 2880 - 1000000))) m := fl_sum_congr m (fun e _ => Int.sub_mul _ _ _)
        rw [q, fl_sum_sub]
        unfold fl_wt at s1 s2
        rw [s1, s2]
        rfl
      have nn : ∀ e, e < m → 0 ≤ (φ (2 * e + 1) - r (2 * e + 1)) * (zi (Y (2 * e) < 2880 ∧ P (Y (2 * e)) ≤ P 2880 - 1000000) - zi (T (2 * e) < 2880 ∧ P (T (2 * e)) ≤ P 2880 - 1000000)) := by
        intro e he
        have o1 := ok e he
        have p1 := ok2 e he
        obtain ⟨h1, h2, h3⟩ := hp e he
        have w1 := pv (2 * e) (by omega)
        have w2 := pv (2 * e + 1) (by omega)
        rw [h1, h2, h3] at w2
        have fe := full e he
        unfold zi
        rcases ty e he with ⟨q1, q2, q3⟩ | ⟨q1, q2, q3⟩ | ⟨q1, q2, q3⟩
        · rw [q1] at w1 w2 ⊢
          rw [if_neg (show ¬ (2880 < 2880 ∧ P 2880 ≤ P 2880 - 1000000) by omega)]
          by_cases z : Y (2 * e) < 2880 ∧ P (Y (2 * e)) ≤ P 2880 - 1000000
          · rw [if_pos z, Int.sub_zero, Int.mul_one]
            rcases q3 with q3 | q3
            · have := fe q3
              omega
            · have : r (2 * e + 1) = 0 := by
                by_cases x : r (2 * e + 1) = 0
                · exact x
                · have := w2 x
                  omega
              omega
          · rw [if_neg z, Int.sub_zero, Int.mul_zero]
            decide
        · rw [q2] at w1 w2 ⊢
          rw [if_neg (show ¬ (2881 < 2880 ∧ P 2881 ≤ P 2880 - 1000000) by omega)]
          by_cases z : T (2 * e) < 2880 ∧ P (T (2 * e)) ≤ P 2880 - 1000000
          · rw [if_pos z]
            have : r (2 * e) = 0 := by
              by_cases x : r (2 * e) = 0
              · exact x
              · have := w1 x
                omega
            omega
          · rw [if_neg z]
            omega
        · rw [q3] at w1 w2
          by_cases z : T (2 * e) < 2880 ∧ P (T (2 * e)) ≤ P 2880 - 1000000
          · by_cases z2 : Y (2 * e) < 2880 ∧ P (Y (2 * e)) ≤ P 2880 - 1000000
            · rw [if_pos z, if_pos z2]
              omega
            · rw [if_pos z, if_neg z2]
              have : r (2 * e) = 0 := by
                by_cases x : r (2 * e) = 0
                · exact x
                · have := w1 x
                  omega
              omega
          · by_cases z2 : Y (2 * e) < 2880 ∧ P (Y (2 * e)) ≤ P 2880 - 1000000
            · rw [if_neg z, if_pos z2]
              have : r (2 * e + 1) = 0 := by
                by_cases x : r (2 * e + 1) = 0
                · exact x
                · have := w2 x
                  omega
              omega
            · rw [if_neg z, if_neg z2]
              omega
      have last := fs_eq0 m nn s3 e0 he0
      rw [t1] at last
      have last2 : (φ (2 * e0 + 1) - r (2 * e0 + 1)) * (zi (Y (2 * e0) < 2880 ∧ P (Y (2 * e0)) ≤ P 2880 - 1000000) - zi (2880 < 2880 ∧ P 2880 ≤ P 2880 - 1000000)) = 0 := last
      rw [z0, show zi (Y (2 * e0) < 2880 ∧ P (Y (2 * e0)) ≤ P 2880 - 1000000) = 1 from if_pos ⟨t2, by omega⟩] at last2
      omega
    · rw [t2, hc0] at v0
      have s1 := dv (fun v => zi (v < 2880 ∧ P 2880 + 1000000 ≤ P v))
      have s2 := dv2 (fun v => zi (v < 2880 ∧ P 2880 + 1000000 ≤ P v))
      have z0 : zi (2880 < 2880 ∧ P 2880 + 1000000 ≤ P 2880) = 0 := if_neg (by omega)
      have z1 : zi (2881 < 2880 ∧ P 2880 + 1000000 ≤ P 2881) = 0 := if_neg (by omega)
      simp only [z0, z1] at s1 s2
      rw [Int.sub_self, Int.mul_zero] at s1 s2
      have s3 : fl_sum (fun e => (r (2 * e + 1) - φ (2 * e + 1)) * (zi (Y (2 * e) < 2880 ∧ P 2880 + 1000000 ≤ P (Y (2 * e))) - zi (T (2 * e) < 2880 ∧ P 2880 + 1000000 ≤ P (T (2 * e))))) m = 0 := by
        have q : fl_sum (fun e => (r (2 * e + 1) - φ (2 * e + 1)) * (zi (Y (2 * e) < 2880 ∧ P 2880 + 1000000 ≤ P (Y (2 * e))) - zi (T (2 * e) < 2880 ∧ P 2880 + 1000000 ≤ P (T (2 * e))))) m = fl_sum (fun e => r (2 * e + 1) * (zi (Y (2 * e) < 2880 ∧ P 2880 + 1000000 ≤ P (Y (2 * e))) - zi (T (2 * e) < 2880 ∧ P 2880 + 1000000 ≤ P (T (2 * e)))) - φ (2 * e + 1) * (zi (Y (2 * e) < 2880 ∧ P 2880 + 1000000 ≤ P (Y (2 * e))) - zi (T (2 * e) < 2880 ∧ P 2880 + 1000000 ≤ P (T (2 * e))))) m := fl_sum_congr m (fun e _ => Int.sub_mul _ _ _)
        rw [q, fl_sum_sub]
        unfold fl_wt at s1 s2
        rw [s1, s2]
        rfl
      have nn : ∀ e, e < m → 0 ≤ (r (2 * e + 1) - φ (2 * e + 1)) * (zi (Y (2 * e) < 2880 ∧ P 2880 + 1000000 ≤ P (Y (2 * e))) - zi (T (2 * e) < 2880 ∧ P 2880 + 1000000 ≤ P (T (2 * e)))) := by
        intro e he
        have o1 := ok e he
        have p1 := ok2 e he
        have b1 := bd1 e he
        obtain ⟨h1, h2, h3⟩ := hp e he
        have w1 := pv (2 * e) (by omega)
        have w2 := pv (2 * e + 1) (by omega)
        rw [h1, h2, h3] at w2
        have fe := full e he
        unfold zi
        rcases ty e he with ⟨q1, q2, q3⟩ | ⟨q1, q2, q3⟩ | ⟨q1, q2, q3⟩
        · rw [q1] at w1 w2 ⊢
          rw [if_neg (show ¬ (2880 < 2880 ∧ P 2880 + 1000000 ≤ P 2880) by omega)]
          by_cases z : Y (2 * e) < 2880 ∧ P 2880 + 1000000 ≤ P (Y (2 * e))
          · rw [if_pos z, Int.sub_zero, Int.mul_one]
            have : r (2 * e) = 0 := by
              by_cases x : r (2 * e) = 0
              · exact x
              · have := w1 x
                omega
            omega
          · rw [if_neg z, Int.sub_zero, Int.mul_zero]
            decide
        · rw [q2] at w1 w2 ⊢
          rw [if_neg (show ¬ (2881 < 2880 ∧ P 2880 + 1000000 ≤ P 2881) by omega)]
          by_cases z : T (2 * e) < 2880 ∧ P 2880 + 1000000 ≤ P (T (2 * e))
          · rw [if_pos z]
            rcases q3 with q3 | q3
            · have := fe q3
              omega
            · have : r (2 * e + 1) = 0 := by
                by_cases x : r (2 * e + 1) = 0
                · exact x
                · have := w2 x
                  omega
              omega
          · rw [if_neg z]
            omega
        · rw [q3] at w1 w2
          by_cases z : T (2 * e) < 2880 ∧ P 2880 + 1000000 ≤ P (T (2 * e))
          · by_cases z2 : Y (2 * e) < 2880 ∧ P 2880 + 1000000 ≤ P (Y (2 * e))
            · rw [if_pos z, if_pos z2]
              omega
            · rw [if_pos z, if_neg z2]
              have : r (2 * e + 1) = 0 := by
                by_cases x : r (2 * e + 1) = 0
                · exact x
                · have := w2 x
                  omega
              omega
          · by_cases z2 : Y (2 * e) < 2880 ∧ P 2880 + 1000000 ≤ P (Y (2 * e))
            · rw [if_neg z, if_pos z2]
              have : r (2 * e) = 0 := by
                by_cases x : r (2 * e) = 0
                · exact x
                · have := w1 x
                  omega
              omega
            · rw [if_neg z, if_neg z2]
              omega
      have last := fs_eq0 m nn s3 e0 he0
      rw [t2] at last
      have last2 : (r (2 * e0 + 1) - φ (2 * e0 + 1)) * (zi (2881 < 2880 ∧ P 2880 + 1000000 ≤ P 2881) - zi (T (2 * e0) < 2880 ∧ P 2880 + 1000000 ≤ P (T (2 * e0)))) = 0 := last
      rw [z1, show zi (T (2 * e0) < 2880 ∧ P 2880 + 1000000 ≤ P (T (2 * e0))) = 1 from if_pos ⟨t1, by omega⟩] at last2
      omega
    · omega
end
section
variable {N : Nat → Int32} {T : tv}
theorem gcost_i (k : tk N T.2.1) {s : Nat} (hs : s < T.2.1) : (gr_cost N s).toInt = (if 3 ≤ N (2 + 24 * s) then cst N s else -1000000) ∧ (3 ≤ N (2 + 24 * s) → 1 ≤ cst N s ∧ cst N s ≤ 1000) := by
  have ok := k.2.2 s hs
  unfold gr_cost cst
  by_cases z : 3 ≤ N (2 + 24 * s)
  · rw [if_pos z, if_pos z, if_pos z]
    exact ⟨rfl, fun _ => (bt_sp ok z).2⟩
  · rw [if_neg z, if_neg z]
    exact ⟨rfl, fun q => absurd q z⟩
theorem hr_pl (L : List Int32) {i p : Nat} (hp : p < 240) : hr N L (240 * i + p) = (gr_has N L i p).toInt := by
  unfold hr
  rw [show (240 * i + p) / 240 = i by omega, show (240 * i + p) % 240 = p by omega]
/-- what the reference's arcs are -/
theorem ref_arc (t : tls T N) {a : gA} (h : a ∈ gr_A N T.2.1) : ty_ok (hotB N) (gr_may N) T.2.1 (2 * (gr_lv N T.2.1).length) a.1 a.2.1 ∧ ((a.1 = 2880 ∧ a.2.1 < 2880 ∧ a.2.2.1.toInt = hr N (gr_lv N T.2.1) a.2.1 ∧ a.2.2.2 = gr_cost N (a.2.1 / 240) ∧ a.2.1 / 240 < T.2.1) ∨ (a.1 < 2880 ∧ a.2.1 = 2881 ∧ a.2.2.1.toInt = hr N (gr_lv N T.2.1) a.1 ∧ a.2.2.2 = gr_cost N (a.1 / 240) ∧ a.1 / 240 < T.2.1) ∨ (a.1 < 2880 ∧ a.2.1 < 2880 ∧ a.2.2.1 = 1125899906842624 ∧ a.2.2.2 = 0)) := by
  have hM := t.k.1
  have hL := gr_lv_len t
  obtain ⟨s, p, hs, hp, hm⟩ := (gg_mem _).mp h
  have nd : (240 * s + p) / 240 = s := by omega
  have nm : (240 * s + p) % 240 = p := by omega
  rcases gp_mem hm with ⟨q1, q2, rfl⟩ | ⟨q1, q2, rfl⟩ | ⟨q1, q2, rfl⟩ | ⟨q1, q2, j, hj, q3, rfl⟩
  · refine ⟨Or.inl ⟨rfl, by show 240 * s + p < 2880; omega, by show hotB N ((240 * s + p) / 240) = true; rw [nd]; exact hotB_t.mpr q1, by show (240 * s + p) / 240 < _; omega, by show (240 * s + p) % 240 < _; omega⟩, Or.inl ⟨rfl, by show 240 * s + p < 2880; omega, ?_, ?_, by show (240 * s + p) / 240 < _; omega⟩⟩
    · show (gr_has N _ s p).toInt = hr N _ (240 * s + p)
      rw [hr_pl _ (by omega)]
    · show gr_cost N s = gr_cost N ((240 * s + p) / 240)
      rw [nd]
  · refine ⟨Or.inr (Or.inr (Or.inl ⟨by show 240 * s + p < 2880; omega, by show 240 * s + p + 1 < 2880; omega, by show hotB N ((240 * s + p) / 240) = true; rw [nd]; exact hotB_t.mpr q1, by show (240 * s + p) / 240 = (240 * s + p + 1) / 240; omega, by show (240 * s + p) / 240 < _; omega, by show (240 * s + p) % 240 < (240 * s + p + 1) % 240; omega, by show (240 * s + p + 1) % 240 < _; omega⟩)), Or.inr (Or.inr ⟨by show 240 * s + p < 2880; omega, by show 240 * s + p + 1 < 2880; omega, rfl, rfl⟩)⟩
  · refine ⟨Or.inr (Or.inl ⟨by show 240 * s + p < 2880; omega, rfl, by show ¬ hotB N ((240 * s + p) / 240) = true; rw [nd]; exact hotB_f.mpr q1, by show (240 * s + p) / 240 < _; omega, by show (240 * s + p) % 240 < _; omega⟩), Or.inr (Or.inl ⟨by show 240 * s + p < 2880; omega, rfl, ?_, ?_, by show (240 * s + p) / 240 < _; omega⟩)⟩
    · show (gr_has N _ s p).toInt = hr N _ (240 * s + p)
      rw [hr_pl _ (by omega)]
    · show gr_cost N s = gr_cost N ((240 * s + p) / 240)
      rw [nd]
  · refine ⟨Or.inr (Or.inr (Or.inr (Or.inl ⟨by show 240 * j + p < 2880; omega, by show 240 * s + p < 2880; omega, by show hotB N ((240 * j + p) / 240) = true; rw [show (240 * j + p) / 240 = j by omega]; exact hotB_t.mpr q3.1, by show ¬ hotB N ((240 * s + p) / 240) = true; rw [nd]; exact hotB_f.mpr q1, by show gr_may N ((240 * j + p) / 240) ((240 * s + p) / 240); rw [nd, show (240 * j + p) / 240 = j by omega]; exact q3, ⟨by show (240 * j + p) / 240 < _; omega, by show (240 * s + p) / 240 < _; omega⟩, by show (240 * j + p) % 240 ≤ (240 * s + p) % 240; omega, by show (240 * s + p) % 240 < _; omega⟩))), Or.inr (Or.inr ⟨by show 240 * j + p < 2880; omega, by show 240 * s + p < 2880; omega, rfl, rfl⟩)⟩
theorem ref_wf (t : tls T N) : pr_wf (gr_A N T.2.1) := by
  have hM := t.k.1
  have hL := gr_lv_len t
  refine ⟨gr_len N _ hM (by omega), fun e he => ?_⟩
  obtain ⟨-, q⟩ := ref_arc t (getD_mem he)
  generalize (gr_A N T.2.1).getD e gd = a at *
  rcases q with ⟨q1, q2, q3, q4, q5⟩ | ⟨q1, q2, q3, q4, q5⟩ | ⟨q1, q2, q3, q4⟩
  · have c := gcost_i t.k q5
    have h := gr_nn (L := gr_lv N T.2.1) t.k q5 (a.2.1 % 240)
    have e1 : hr N (gr_lv N T.2.1) a.2.1 = (gr_has N (gr_lv N T.2.1) (a.2.1 / 240) (a.2.1 % 240)).toInt := rfl
    rw [q4, q3, e1, c.1]
    refine ⟨by omega, by omega, ?_, h.1, h.2.1⟩
    split
    · rename_i z
      have := c.2 z
      omega
    · omega
  · have c := gcost_i t.k q5
    have h := gr_nn (L := gr_lv N T.2.1) t.k q5 (a.1 % 240)
    have e1 : hr N (gr_lv N T.2.1) a.1 = (gr_has N (gr_lv N T.2.1) (a.1 / 240) (a.1 % 240)).toInt := rfl
    rw [q4, q3, e1, c.1]
    refine ⟨by omega, by omega, ?_, h.1, h.2.1⟩
    split
    · rename_i z
      have := c.2 z
      omega
    · omega
  · rw [q3, q4]
    refine ⟨by omega, by omega, by decide, by decide, by decide⟩
/-- a first potential -/
theorem ref_pot (t : tls T N) : sp_pot (hv (gr_A N T.2.1)) (hv_r (gr_A N T.2.1)) (fun v => if v = 2880 then 0 else if v = 2881 then -2000000 else -1000000) := by
  refine pr_pot.mpr (fun i hi hr2 => ?_)
  obtain ⟨e, he, h⟩ := pr_half hi
  rcases h with rfl | rfl
  · have q := (hv_get _ e he).1
    obtain ⟨-, w⟩ := ref_arc t (getD_mem he)
    show (if ((hv (gr_A N T.2.1)).getD (2 * e) hd).2.1 = 2880 then (0 : Int) else if ((hv (gr_A N T.2.1)).getD (2 * e) hd).2.1 = 2881 then -2000000 else -1000000) ≤ (if ((hv (gr_A N T.2.1)).getD (2 * e) hd).1 = 2880 then (0 : Int) else if ((hv (gr_A N T.2.1)).getD (2 * e) hd).1 = 2881 then -2000000 else -1000000) + ((hv (gr_A N T.2.1)).getD (2 * e) hd).2.2.toInt
    rw [q]
    show (if ((gr_A N T.2.1).getD e gd).2.1 = 2880 then (0 : Int) else if ((gr_A N T.2.1).getD e gd).2.1 = 2881 then -2000000 else -1000000) ≤ (if ((gr_A N T.2.1).getD e gd).1 = 2880 then (0 : Int) else if ((gr_A N T.2.1).getD e gd).1 = 2881 then -2000000 else -1000000) + ((gr_A N T.2.1).getD e gd).2.2.2.toInt
    have wf := (ref_wf t).2 e he
    generalize (gr_A N T.2.1).getD e gd = a at *
    rcases w with ⟨q1, q2, -⟩ | ⟨q1, q2, -⟩ | ⟨q1, q2, q3, q4⟩
    · rw [if_neg (show ¬ a.2.1 = 2880 by omega), if_neg (show ¬ a.2.1 = 2881 by omega), if_pos q1]
      omega
    · rw [if_neg (show ¬ a.2.1 = 2880 by omega), if_pos q2, if_neg (show ¬ a.1 = 2880 by omega), if_neg (show ¬ a.1 = 2881 by omega)]
      omega
    · rw [if_neg (show ¬ a.2.1 = 2880 by omega), if_neg (show ¬ a.2.1 = 2881 by omega), if_neg (show ¬ a.1 = 2880 by omega), if_neg (show ¬ a.1 = 2881 by omega), q4]
      decide
  · exact absurd (by unfold pr hv_r; rw [if_neg (by omega)]; rfl) hr2
end
