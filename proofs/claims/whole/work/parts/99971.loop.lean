/-! the run along a meeting, both ways -/
section
variable {N : Nat → Int32} {i : Nat}
theorem sp_k (ok : tl_ok N i) (k3 : N (2 + 24 * i) < 3) : (N (2 + 24 * i) = 1 ∧ rf_sp N i = 0) ∨ (¬ N (2 + 24 * i) = 1 ∧ 1 ≤ rf_sp N i) := by
  by_cases y : N (2 + 24 * i) = 1
  · exact Or.inl ⟨y, (tl_1 ok k3).mpr y⟩
  · refine Or.inr ⟨y, ?_⟩
    have : ¬ rf_sp N i = 0 := fun q => y ((tl_1 ok k3).mp q)
    omega
theorem put_0 (h0 : rf_sp N i = 0) (x : Int64) : pq_put (tl_S N i) x = (0, sv_hotter (tl_S N i), 0, x) := by
  unfold pq_put
  rw [show sv_n (tl_S N i) - 1 = 0 by show rf_sp N i - 1 = 0; omega]
  show (0, sv_hotter (tl_S N i), sv_of (tl_S N i) (sv_ff (tl_S N i)) 0, x) = _
  have e : sv_of (tl_S N i) (sv_ff (tl_S N i)) 0 = 0 := by
    unfold sv_of
    rw [if_neg]
    rintro ⟨-, h⟩
    rw [show sv_n (tl_S N i) = rf_sp N i from rfl, h0, show (0 : Int32).toInt = 0 from rfl] at h
    omega
  rw [e]
theorem hotter_0 (h0 : rf_sp N i = 0) : sv_hotter (tl_S N i) = N (2 + 24 * i + 3) := by
  show (if N (2 + 24 * i + 1) = 0 then N (2 + 24 * i + 3) + sn_far (tl_d N i) (rf_sp N i) else N (2 + 24 * i + 3)) = _
  rw [h0]
  show (if N (2 + 24 * i + 1) = 0 then N (2 + 24 * i + 3) + 0 else N (2 + 24 * i + 3)) = _
  rw [Int32.add_zero, ite_self]
theorem gone_le (ok : tl_ok N i) (hg : 1 ≤ (N 1).toInt ∧ (N 1).toInt ≤ 200) (h1 : ¬ N (2 + 24 * i) = 1) (hn : 1 ≤ rf_sp N i) {x : Int64} (hx : 0 ≤ x.toInt ∧ x.toInt ≤ zT N i) : pv N i x.toInt (pq_put (tl_S N i) x) ∧ (pq_put (tl_S N i) x).2.2.2.toInt ≤ zg N i (pq_put (tl_S N i) x).1 ∧ ((pq_put (tl_S N i) x).1 + 1 < rf_sp N i → (pq_put (tl_S N i) x).2.2.2.toInt < zg N i (pq_put (tl_S N i) x).1) ∧ ((pq_put (tl_S N i) x).1 + 1 = rf_sp N i → zg N i (pq_put (tl_S N i) x).1 - (pq_put (tl_S N i) x).2.2.2.toInt = zT N i - x.toInt) := by
  have zt1 := zT_in ok hg
  have P := pv_put ok hg hn x (by omega)
  have nm := put_nm (tl_S N i) x
  have eT := HH_T ok hg h1
  generalize pq_put (tl_S N i) x = q at *
  have eh := pq_hi ok hg P.1
  obtain ⟨a, b, c, d, f⟩ := P
  have l1 : q.1 + 1 < rf_sp N i → q.2.2.2.toInt < zg N i q.1 := by
    intro h
    by_cases z : q.2.2.2.toInt < zg N i q.1
    · exact z
    · exfalso
      have e := nm
      unfold pq_nm pq_st at e
      rw [if_pos (show q.1 + 1 < sv_n (tl_S N i) ∧ ¬ q.2.2.2 < pq_h (tl_S N i) q.1 from ⟨h, by rw [Int64.lt_iff_toInt_lt, eh]; exact z⟩)] at e
      have e2 := congrArg (fun r : plv => r.1) e
      have e3 : q.1 + 1 = q.1 := e2
      omega
  have l2 : q.1 + 1 = rf_sp N i → zg N i q.1 - q.2.2.2.toInt = zT N i - x.toInt := by
    intro h
    rw [← eT, ← h, d]
    show _ = HH N i q.1 + zg N i q.1 - x.toInt
    omega
  refine ⟨⟨a, b, c, d, f⟩, ?_, l1, l2⟩
  by_cases z : q.1 + 1 < rf_sp N i
  · have := l1 z
    omega
  · have := l2 (by omega)
    omega
theorem pi_1 (ok : tl_ok N i) (hg : 1 ≤ (N 1).toInt ∧ (N 1).toInt ≤ 200) (k3 : N (2 + 24 * i) < 3) {x : Int64} (hx : 0 ≤ x.toInt ∧ x.toInt ≤ zT N i) : (pq_un (pq_put (tl_S N i) x) = (pl_at N i x).2.2.1 ∧ pq_ov (pq_put (tl_S N i) x) = (pl_at N i x).1 * (pl_at N i x).2.2.1 - (pl_at N i x).2.1) ∧ m4_ok (pl_at N i x) := by
  rcases sp_k ok k3 with ⟨h1, h0⟩ | ⟨h1, hn⟩
  · have e : pl_at N i x = ((N (2 + 24 * i + 3)).toInt64, 0, 1, 1099511627776) := if_pos h1
    have b := ok.2.1
    rw [e, put_0 h0, hotter_0 h0]
    refine ⟨⟨if_pos rfl, ?_⟩, ?_⟩
    · show (N (2 + 24 * i + 3)).toInt64 = (N (2 + 24 * i + 3)).toInt64 * 1 - 0
      rw [Int64.mul_one, Int64.sub_zero]
    · refine ⟨?_, ?_, ?_⟩
      · show 0 ≤ (N (2 + 24 * i + 3)).toInt64.toInt ∧ (N (2 + 24 * i + 3)).toInt64.toInt ≤ 2000
        rw [rf_w]
        exact b
      · show 1 ≤ (1 : Int64).toInt ∧ (1 : Int64).toInt ≤ 1000
        decide
      · show 0 ≤ (0 : Int64).toInt ∧ (0 : Int64).toInt ≤ 2200 * (1 : Int64).toInt
        decide
  · obtain ⟨⟨a, b, c, d, f⟩, l, -, -⟩ := gone_le ok hg h1 hn hx
    rw [pl_put ok hg h1 hn x]
    have w := warm_in ok (j := (pq_put (tl_S N i) x).1) (by omega)
    have zf1 := zf_in ok a
    have zg1 := zg_in ok hg a
    have ef : ((pq_put (tl_S N i) x).2.2.1).toInt = zf N i (pq_put (tl_S N i) x).1 := by
      rw [c]
      rfl
    have f0 : ¬ (pq_put (tl_S N i) x).2.2.1 = 0 := fun q => by
      rw [q, show (0 : Int32).toInt = 0 from rfl] at ef
      omega
    refine ⟨⟨if_neg f0, if_neg f0⟩, ?_, ?_, ?_⟩
    · show 0 ≤ ((pq_put (tl_S N i) x).2.1.toInt64).toInt ∧ ((pq_put (tl_S N i) x).2.1.toInt64).toInt ≤ 2000
      rw [rf_w, b]
      exact w
    · show 1 ≤ ((pq_put (tl_S N i) x).2.2.1.toInt64).toInt ∧ ((pq_put (tl_S N i) x).2.2.1.toInt64).toInt ≤ 1000
      rw [rf_w, ef]
      exact zf1
    · show 0 ≤ (pq_put (tl_S N i) x).2.2.2.toInt ∧ (pq_put (tl_S N i) x).2.2.2.toInt ≤ 2200 * ((pq_put (tl_S N i) x).2.2.1.toInt64).toInt
      rw [rf_w, ef]
      omega
/-- how far the next bend is -/
theorem pi_2 (ok : tl_ok N i) (hg : 1 ≤ (N 1).toInt ∧ (N 1).toInt ≤ 200) (k3 : N (2 + 24 * i) < 3) {x : Int64} (hx : 0 ≤ x.toInt ∧ x.toInt < zT N i) : 1 ≤ (pl_at N i x).2.2.2.toInt ∧ (pq_tb (tl_S N i) (pq_put (tl_S N i) x) = (pl_at N i x).2.2.2 ∨ ((pl_at N i x).2.2.2.toInt = 1099511627776 ∧ (pq_tb (tl_S N i) (pq_put (tl_S N i) x)).toInt = 9223372036854775807)) := by
  rcases sp_k ok k3 with ⟨h1, h0⟩ | ⟨h1, hn⟩
  · have e : pl_at N i x = ((N (2 + 24 * i + 3)).toInt64, 0, 1, 1099511627776) := if_pos h1
    rw [e, put_0 h0]
    refine ⟨by show 1 ≤ (1099511627776 : Int64).toInt; decide, Or.inr ⟨rfl, ?_⟩⟩
    show (if (0 : Int32) = 0 then (9223372036854775807 : Int64) else _).toInt = _
    rw [if_pos rfl]
    rfl
  · obtain ⟨⟨a, b, c, d, f⟩, l, l1, l2⟩ := gone_le ok hg h1 hn (by omega : 0 ≤ x.toInt ∧ x.toInt ≤ zT N i)
    rw [pl_put ok hg h1 hn x]
    have zf1 := zf_in ok a
    have zg1 := zg_in ok hg a
    have ef : ((pq_put (tl_S N i) x).2.2.1).toInt = zf N i (pq_put (tl_S N i) x).1 := by
      rw [c]
      rfl
    have f0 : ¬ (pq_put (tl_S N i) x).2.2.1 = 0 := fun q => by
      rw [q, show (0 : Int32).toInt = 0 from rfl] at ef
      omega
    have eh := pq_hi ok hg a
    refine ⟨?_, Or.inl (if_neg f0)⟩
    show 1 ≤ (pq_h (tl_S N i) (pq_put (tl_S N i) x).1 - (pq_put (tl_S N i) x).2.2.2).toInt
    rw [Int64.toInt_sub, eh, Int.bmod_eq_of_le (by omega) (by omega)]
    by_cases z : (pq_put (tl_S N i) x).1 + 1 < rf_sp N i
    · have := l1 z
      omega
    · have := l2 (by omega)
      omega
def mu (N : Nat → Int32) (i : Nat) (x : Int64) : Nat := rf_sp N i - 1 - (pq_put (tl_S N i) x).1
theorem pi_3 (ok : tl_ok N i) (hg : 1 ≤ (N 1).toInt ∧ (N 1).toInt ≤ 200) (k3 : N (2 + 24 * i) < 3) {x y : Int64} (hx : 0 ≤ x.toInt) (hy : 0 ≤ y.toInt) (hxy : x.toInt + y.toInt ≤ zT N i) (ht : y.toInt ≤ (pq_tb (tl_S N i) (pq_put (tl_S N i) x)).toInt) : pq_mv (tl_S N i) (pq_put (tl_S N i) x) y = pq_put (tl_S N i) (x + y) ∧ mu N i (x + y) ≤ mu N i x ∧ (y.toInt = (pq_tb (tl_S N i) (pq_put (tl_S N i) x)).toInt → x.toInt + y.toInt < zT N i → mu N i (x + y) < mu N i x) := by
  have zt1 := zT_in ok hg
  rcases sp_k ok k3 with ⟨h1, h0⟩ | ⟨h1, hn⟩
  · refine ⟨?_, ?_, fun q => ?_⟩
    · rw [put_0 h0, put_0 h0]
      exact nm_last (by show ¬ 0 + 1 < rf_sp N i; omega)
    · unfold mu
      omega
    · rw [put_0 h0] at q
      have e : (pq_tb (tl_S N i) (0, sv_hotter (tl_S N i), 0, x)).toInt = 9223372036854775807 := by
        show (if (0 : Int32) = 0 then (9223372036854775807 : Int64) else _).toInt = _
        rw [if_pos rfl]
        rfl
      omega
  · obtain ⟨⟨a, b, c, d, f⟩, l, l1, l2⟩ := gone_le ok hg h1 hn (by omega : 0 ≤ x.toInt ∧ x.toInt ≤ zT N i)
    have zf1 := zf_in ok a
    have zg1 := zg_in ok hg a
    have ef : ((pq_put (tl_S N i) x).2.2.1).toInt = zf N i (pq_put (tl_S N i) x).1 := by
      rw [c]
      rfl
    have f0 : ¬ (pq_put (tl_S N i) x).2.2.1 = 0 := fun q => by
      rw [q, show (0 : Int32).toInt = 0 from rfl] at ef
      omega
    have eh := pq_hi ok hg a
    have et : (pq_tb (tl_S N i) (pq_put (tl_S N i) x)).toInt = zg N i (pq_put (tl_S N i) x).1 - (pq_put (tl_S N i) x).2.2.2.toInt := by
      unfold pq_tb
      rw [if_neg f0, Int64.toInt_sub, eh]
      exact Int.bmod_eq_of_le (by omega) (by omega)
    rw [et] at ht ⊢
    have mv := put_mv ok hg hn (x := x) (y := y) (by omega) hy ht
    refine ⟨mv, ?_, fun q hlt => ?_⟩
    · unfold mu
      rw [← mv]
      rcases st_or (tl_S N i) (pq_ad (pq_put (tl_S N i) x) y) with e | ⟨-, e⟩
      · have e2 : pq_mv (tl_S N i) (pq_put (tl_S N i) x) y = pq_ad (pq_put (tl_S N i) x) y := e
        rw [e2]
        exact Nat.le_refl _
      · have e2 : (pq_mv (tl_S N i) (pq_put (tl_S N i) x) y).1 = (pq_put (tl_S N i) x).1 + 1 := congrArg (fun r : plv => r.1) e
        rw [e2]
        omega
    · have lt : (pq_put (tl_S N i) x).1 + 1 < rf_sp N i := by
        by_cases z : (pq_put (tl_S N i) x).1 + 1 < rf_sp N i
        · exact z
        · have := l2 (by omega)
          omega
      have es : (pq_mv (tl_S N i) (pq_put (tl_S N i) x) y).1 = (pq_put (tl_S N i) x).1 + 1 := by
        rcases st_or (tl_S N i) (pq_ad (pq_put (tl_S N i) x) y) with e | ⟨-, e⟩
        · exfalso
          have nm := e
          unfold pq_nm pq_st at nm
          have cnd : (pq_ad (pq_put (tl_S N i) x) y).1 + 1 < sv_n (tl_S N i) ∧ ¬ (pq_ad (pq_put (tl_S N i) x) y).2.2.2 < pq_h (tl_S N i) (pq_ad (pq_put (tl_S N i) x) y).1 := by
            refine ⟨lt, ?_⟩
            show ¬ (pq_put (tl_S N i) x).2.2.2 + y < pq_h (tl_S N i) (pq_put (tl_S N i) x).1
            rw [Int64.lt_iff_toInt_lt, Int64.toInt_add, eh, Int.bmod_eq_of_le (by omega) (by omega)]
            omega
          rw [if_pos cnd] at nm
          have e2 := congrArg (fun r : plv => r.1) nm
          have e3 : (pq_put (tl_S N i) x).1 + 1 = (pq_put (tl_S N i) x).1 := e2
          omega
        · exact congrArg (fun r : plv => r.1) e
      unfold mu
      rw [← mv, es]
      omega
theorem mu_le (ok : tl_ok N i) (x : Int64) : mu N i x ≤ 7 := by
  have := ok.2.2.1.2
  unfold mu
  omega
end
section
variable {N : Nat → Int32} {a c : Nat}
theorem dq_ring (t1 t2 f1 f2 g1 g2 : Int64) : (t1 * f1 - g1) * f2 - (t2 * f2 - g2) * f1 = (t1 - t2) * f1 * f2 - g1 * f2 + g2 * f1 := by
  grind
theorem dq_g {p q : plv} {m n : m4} (u1 : pq_un p = m.2.2.1) (u2 : pq_un q = n.2.2.1) (o1 : pq_ov p = m.1 * m.2.2.1 - m.2.1) (o2 : pq_ov q = n.1 * n.2.2.1 - n.2.1) (f : fr_ok (ms_n m n, ms_d m n)) : (dq p q).toInt = flq (ms_n m n, ms_d m n) := by
  have eu : dq_u p q = ms_d m n := by
    unfold dq_u ms_d
    rw [u1, u2]
  have eo : dq_o p q = ms_n m n := by
    unfold dq_o ms_n
    rw [u1, u2, o1, o2]
    exact dq_ring _ _ _ _ _ _
  have ne : ¬ ms_d m n = 0 := fun r => by
    have h2 : 1 ≤ (ms_d m n).toInt := f.1.1
    rw [r] at h2
    have h3 : (0 : Int64).toInt = 0 := rfl
    omega
  have g := fr_fdv f
  unfold dq
  rw [eu, eo, if_neg ne]
  exact g
theorem dq_i (oa : tl_ok N a) (oc : tl_ok N c) (hg : 1 ≤ (N 1).toInt ∧ (N 1).toInt ≤ 200) (ka : N (2 + 24 * a) < 3) (kc : N (2 + 24 * c) < 3) {x y : Int64} (hx : 0 ≤ x.toInt ∧ x.toInt ≤ zT N a) (hy : 0 ≤ y.toInt ∧ y.toInt ≤ zT N c) : (dq (pq_put (tl_S N a) x) (pq_put (tl_S N c) y)).toInt = flq (ms_n (pl_at N a x) (pl_at N c y), ms_d (pl_at N a x) (pl_at N c y)) := by
  obtain ⟨⟨u1, o1⟩, m1⟩ := pi_1 oa hg ka hx
  obtain ⟨⟨u2, o2⟩, m2⟩ := pi_1 oc hg kc hy
  exact dq_g u1 u2 o1 o2 (ms_fr m1 m2)
theorem ld_step {S1 S2 : sv} {d : Nat} {p q : plv} {left : Int64} {near : Int32} (h : 0 < left) : ld_lp S1 S2 (d + 1) p q left near = ld_lp S1 S2 d (pq_mv S1 p (ld_s S1 S2 p q left)) (pq_mv S2 q (ld_s S1 S2 p q left)) (left - ld_s S1 S2 p q left) (imin near (dq (pq_mv S1 p (ld_s S1 S2 p q left)) (pq_mv S2 q (ld_s S1 S2 p q left)))) := if_pos h
theorem zimin {x y : Int32} : (imin x y).toInt = if y.toInt < x.toInt then y.toInt else x.toInt := by
  unfold imin
  by_cases z : y < x
  · rw [if_pos z, if_pos ((lv_i _ _).mp z)]
  · rw [if_neg z, if_neg (fun q => z ((lv_i _ _).mpr q))]
theorem ld_ms (oa : tl_ok N a) (oc : tl_ok N c) (hg : 1 ≤ (N 1).toInt ∧ (N 1).toInt ≤ 200) (ka : N (2 + 24 * a) < 3) (kc : N (2 + 24 * c) < 3) {x y heat : Int64} (hx : 0 ≤ x.toInt) (hy : 0 ≤ y.toInt) (h0 : 0 ≤ heat.toInt) (hxa : x.toInt + heat.toInt ≤ zT N a) (hyc : y.toInt + heat.toInt ≤ zT N c) : ∀ (d : Nat) (t : Int64) (fi : Bool) (ab : Int64 × Int64) (e : Nat) (near : Int32), 0 ≤ t.toInt → t.toInt ≤ heat.toInt → heat.toInt - t.toInt < d → (fi = false → fr_ok ab) → near.toInt = flq (ms_a (pl_at N a (x + t)) (pl_at N c (y + t)) fi ab) → (t.toInt < heat.toInt → mu N a (x + t) + mu N c (y + t) < e) → (ld_lp (tl_S N a) (tl_S N c) e (pq_put (tl_S N a) (x + t)) (pq_put (tl_S N c) (y + t)) (heat - t) near).toInt = flq (ms_lp N a c x y heat d t fi ab) ∧ fr_ok (ms_lp N a c x y heat d t fi ab)
  | 0, t, fi, ab, e, near, t0, t1, t2, _, _, _ => absurd t2 (by omega)
  | d + 1, t, fi, ab, e, near, t0, t1, t2, hf, hn, he => by
    have za := zT_in oa hg
    have zc := zT_in oc hg
    have ext : (x + t).toInt = x.toInt + t.toInt := by
      rw [Int64.toInt_add]
      exact Int.bmod_eq_of_le (by omega) (by omega)
    have eyt : (y + t).toInt = y.toInt + t.toInt := by
      rw [Int64.toInt_add]
      exact Int.bmod_eq_of_le (by omega) (by omega)
    have eht : (heat - t).toInt = heat.toInt - t.toInt := by
      rw [Int64.toInt_sub]
      exact Int.bmod_eq_of_le (by omega) (by omega)
    obtain ⟨-, m1⟩ := pi_1 oa hg ka (x := x + t) (by omega)
    obtain ⟨-, m2⟩ := pi_1 oc hg kc (x := y + t) (by omega)
    have fr : fr_ok (ms_a (pl_at N a (x + t)) (pl_at N c (y + t)) fi ab) := by
      cases fi with
      | true =>
        rw [ms_a_1]
        exact ms_fr m1 m2
      | false => exact (ms_a_2 m1 m2 (hf rfl)).1
    unfold ms_lp
    by_cases z : t < heat
    · rw [if_pos z]
      rw [Int64.lt_iff_toInt_lt] at z
      obtain ⟨r1, q1⟩ := pi_2 oa hg ka (x := x + t) (by omega)
      obtain ⟨r2, q2⟩ := pi_2 oc hg kc (x := y + t) (by omega)
      obtain ⟨e, rfl⟩ : ∃ e2, e = e2 + 1 := ⟨e - 1, by have := he z; omega⟩
      have he2 := he z
      obtain ⟨s, es⟩ : ∃ s, s = ms_s (pl_at N a (x + t)) (pl_at N c (y + t)) (heat - t) := ⟨_, rfl⟩
      have s1 : s.toInt = zmin (heat.toInt - t.toInt) (zmin (pl_at N a (x + t)).2.2.2.toInt (pl_at N c (y + t)).2.2.2.toInt) := by
        rw [es]
        unfold ms_s ms_1 zmin
        have e1 : (if (pl_at N c (y + t)).2.2.2 < (pl_at N a (x + t)).2.2.2 then (pl_at N c (y + t)).2.2.2 else (pl_at N a (x + t)).2.2.2).toInt = if (pl_at N c (y + t)).2.2.2.toInt < (pl_at N a (x + t)).2.2.2.toInt then (pl_at N c (y + t)).2.2.2.toInt else (pl_at N a (x + t)).2.2.2.toInt := by
          by_cases r : (pl_at N c (y + t)).2.2.2 < (pl_at N a (x + t)).2.2.2
          · rw [if_pos r, if_pos (Int64.lt_iff_toInt_lt.mp r)]
          · rw [if_neg r, if_neg (fun q => r (Int64.lt_iff_toInt_lt.mpr q))]
        generalize (if (pl_at N c (y + t)).2.2.2 < (pl_at N a (x + t)).2.2.2 then (pl_at N c (y + t)).2.2.2 else (pl_at N a (x + t)).2.2.2) = v at e1 ⊢
        rw [← e1]
        have v1 : 1 ≤ v.toInt := by
          rw [e1]
          split <;> omega
        by_cases r : v < 1 ∨ heat - t < v
        · rw [if_pos r, eht]
          rcases r with r | r
          · rw [Int64.lt_iff_toInt_lt, show (1 : Int64).toInt = 1 from rfl] at r
            omega
          · rw [Int64.lt_iff_toInt_lt, eht] at r
            rw [if_neg (by omega)]
        · rw [if_neg r]
          have r2 : ¬ heat.toInt - t.toInt < v.toInt := fun q => r (Or.inr (by rw [Int64.lt_iff_toInt_lt, eht]; exact q))
          split <;> omega
      have s2 : ld_s (tl_S N a) (tl_S N c) (pq_put (tl_S N a) (x + t)) (pq_put (tl_S N c) (y + t)) (heat - t) = s := by
        apply Int64.toInt_inj.mp
        unfold ld_s
        rw [lmin_im, lmin_im, eht, s1]
        rcases q1 with q1 | ⟨q1, q1b⟩
        · rw [q1]
          rcases q2 with q2 | ⟨q2, q2b⟩
          · rw [q2]
          · rw [q2, q2b]
            unfold zmin
            split <;> split <;> (try split) <;> (try split) <;> omega
        · rw [q1, q1b]
          rcases q2 with q2 | ⟨q2, q2b⟩
          · rw [q2]
            unfold zmin
            split <;> split <;> (try split) <;> (try split) <;> omega
          · rw [q2, q2b]
            unfold zmin
            split <;> split <;> (try split) <;> (try split) <;> omega
      have zl1 := zmin_le (heat.toInt - t.toInt) (zmin (pl_at N a (x + t)).2.2.2.toInt (pl_at N c (y + t)).2.2.2.toInt)
      have zl2 := zmin_le (pl_at N a (x + t)).2.2.2.toInt (pl_at N c (y + t)).2.2.2.toInt
      have spos : 1 ≤ s.toInt := by
        rw [s1]
        exact zmin_ge.mpr ⟨by omega, zmin_ge.mpr ⟨r1, r2⟩⟩
      rw [← s1] at zl1
      have tb1 : s.toInt ≤ (pq_tb (tl_S N a) (pq_put (tl_S N a) (x + t))).toInt := by
        rcases q1 with q1 | ⟨q1, q1b⟩
        · rw [q1]
          omega
        · omega
      have tb2 : s.toInt ≤ (pq_tb (tl_S N c) (pq_put (tl_S N c) (y + t))).toInt := by
        rcases q2 with q2 | ⟨q2, q2b⟩
        · rw [q2]
          omega
        · omega
      obtain ⟨v1, v2, v3⟩ := pi_3 oa hg ka (x := x + t) (y := s) (by omega) (by omega) (by omega) tb1
      obtain ⟨w1, w2, w3⟩ := pi_3 oc hg kc (x := y + t) (y := s) (by omega) (by omega) (by omega) tb2
      have ets : (t + s).toInt = t.toInt + s.toInt := by
        rw [Int64.toInt_add]
        exact Int.bmod_eq_of_le (by omega) (by omega)
      rw [Int64.add_assoc] at v1 v2 v3 w1 w2 w3
      have exs : (x + (t + s)).toInt = x.toInt + (t.toInt + s.toInt) := by
        rw [Int64.toInt_add, ets]
        exact Int.bmod_eq_of_le (by omega) (by omega)
      have eys : (y + (t + s)).toInt = y.toInt + (t.toInt + s.toInt) := by
        rw [Int64.toInt_add, ets]
        exact Int.bmod_eq_of_le (by omega) (by omega)
      obtain ⟨-, n1⟩ := pi_1 oa hg ka (x := x + (t + s)) (by omega)
      obtain ⟨-, n2⟩ := pi_1 oc hg kc (x := y + (t + s)) (by omega)
      have dn := dq_i oa oc hg ka kc (x := x + (t + s)) (y := y + (t + s)) (by omega) (by omega)
      have mm := ms_a_2 n1 n2 fr
      have lf : 0 < heat - t := by
        rw [Int64.lt_iff_toInt_lt, eht, show (0 : Int64).toInt = 0 from rfl]
        omega
      have ih := ld_ms oa oc hg ka kc hx hy h0 hxa hyc d (t + s) false (ms_a (pl_at N a (x + t)) (pl_at N c (y + t)) fi ab) e (imin near (dq (pq_put (tl_S N a) (x + (t + s))) (pq_put (tl_S N c) (y + (t + s))))) (by omega) (by omega) (by omega) (fun _ => fr) (by
        rw [zimin, mm.2, dn, hn]) (fun hlt => by
        have hlt2 : s.toInt < heat.toInt - t.toInt := by omega
        have which : s.toInt = (pl_at N a (x + t)).2.2.2.toInt ∨ s.toInt = (pl_at N c (y + t)).2.2.2.toInt := by
          rcases zmin_eq (heat.toInt - t.toInt) (zmin (pl_at N a (x + t)).2.2.2.toInt (pl_at N c (y + t)).2.2.2.toInt) with q | q
          · rw [← s1] at q
            omega
          · rw [← s1] at q
            rcases zmin_eq (pl_at N a (x + t)).2.2.2.toInt (pl_at N c (y + t)).2.2.2.toInt with r | r
            · exact Or.inl (q.trans r)
            · exact Or.inr (q.trans r)
        rcases which with q | q
        · have := v3 (by
            rcases q1 with q1 | ⟨q1, q1b⟩
            · rw [q1]
              exact q
            · omega) (by omega)
          omega
        · have := w3 (by
            rcases q2 with q2 | ⟨q2, q2b⟩
            · rw [q2]
              exact q
            · omega) (by omega)
          omega)
      rw [← es]
      have un : ld_lp (tl_S N a) (tl_S N c) (e + 1) (pq_put (tl_S N a) (x + t)) (pq_put (tl_S N c) (y + t)) (heat - t) near = ld_lp (tl_S N a) (tl_S N c) e (pq_put (tl_S N a) (x + (t + s))) (pq_put (tl_S N c) (y + (t + s))) (heat - (t + s)) (imin near (dq (pq_put (tl_S N a) (x + (t + s))) (pq_put (tl_S N c) (y + (t + s))))) := by
        rw [ld_step lf, s2, v1, w1, show heat - t - s = heat - (t + s) by grind]
      rw [un]
      exact ih
    · rw [if_neg z]
      rw [Int64.lt_iff_toInt_lt] at z
      have lf : ¬ 0 < heat - t := by
        rw [Int64.lt_iff_toInt_lt, eht, show (0 : Int64).toInt = 0 from rfl]
        omega
      refine ⟨?_, fr⟩
      rw [← hn]
      cases e with
      | zero => rfl
      | succ e =>
        unfold ld_lp
        rw [if_neg lf]
theorem ld_at_i (oa : tl_ok N a) (oc : tl_ok N c) (hg : 1 ≤ (N 1).toInt ∧ (N 1).toInt ≤ 200) (ka : N (2 + 24 * a) < 3) (kc : N (2 + 24 * c) < 3) {x y heat : Int64} (hx : 0 ≤ x.toInt) (hy : 0 ≤ y.toInt) (h0 : 0 ≤ heat.toInt) (hxa : x.toInt + heat.toInt ≤ zT N a) (hyc : y.toInt + heat.toInt ≤ zT N c) : (ld_at (tl_S N a) (tl_S N c) (pq_put (tl_S N a) x) (pq_put (tl_S N c) y) heat).toInt = flq (ms_at N a c x y heat) ∧ fr_ok (ms_at N a c x y heat) := by
  have r := ld_ms oa oc hg ka kc hx hy h0 hxa hyc (heat.toInt.toNat + 1) 0 true (0, 0) 18 (dq (pq_put (tl_S N a) x) (pq_put (tl_S N c) y)) (by decide) (by rw [show (0 : Int64).toInt = 0 from rfl]; omega) (by rw [show (0 : Int64).toInt = 0 from rfl]; omega) (fun h => absurd h (by decide)) (by
    rw [ms_a_1, Int64.add_zero, Int64.add_zero]
    exact dq_i oa oc hg ka kc (by omega) (by omega)) (fun _ => by
    have := mu_le oa (x + 0)
    have := mu_le oc (y + 0)
    omega)
  rw [Int64.add_zero, Int64.add_zero, Int64.sub_zero] at r
  exact r
end
