/-! a place in a stream, both ways -/
def zg (N : Nat → Int32) (i j : Nat) : Int := (zl N i j - zl N i (j + 1)) * zf N i j
def HH (N : Nat → Int32) (i : Nat) : Nat → Int
  | 0 => 0
  | j + 1 => HH N i j + zg N i j
def pq_nm (S : sv) (q : plv) : Prop := pq_st S q = q
def pq_ad (q : plv) (y : Int64) : plv := (q.1, q.2.1, q.2.2.1, q.2.2.2 + y)
theorem it_nm {S : sv} {q : plv} (h : pq_nm S q) : ∀ k, pq_it S k q = q
  | 0 => rfl
  | k + 1 => by
    show pq_it S k (pq_st S q) = q
    rw [h]
    exact it_nm h k
theorem it_add (S : sv) : ∀ a b q, pq_it S (a + b) q = pq_it S b (pq_it S a q)
  | 0, b, q => by rw [Nat.zero_add]; rfl
  | a + 1, b, q => by
    rw [show a + 1 + b = a + b + 1 by omega]
    exact it_add S a b (pq_st S q)
theorem st_or (S : sv) (q : plv) : pq_nm S q ∨ (q.1 + 1 < sv_n S ∧ ¬ q.2.2.2 < pq_h S q.1) ∧ pq_st S q = (q.1 + 1, q.2.1 - sv_fd S q.1, sv_of S (sv_ff S) (nI (q.1 + 1)), q.2.2.2 - pq_h S q.1) := by
  by_cases z : q.1 + 1 < sv_n S ∧ ¬ q.2.2.2 < pq_h S q.1
  · exact Or.inr ⟨z, if_pos z⟩
  · exact Or.inl (if_neg z)
theorem it_or (S : sv) : ∀ k q, pq_nm S (pq_it S k q) ∨ (pq_it S k q).1 = q.1 + k
  | 0, q => Or.inr rfl
  | k + 1, q => by
    rcases st_or S q with h | ⟨h1, h2⟩
    · rw [it_nm h]
      exact Or.inl h
    · rcases it_or S k (pq_st S q) with g | g
      · exact Or.inl g
      · refine Or.inr ?_
        show (pq_it S k (pq_st S q)).1 = _
        rw [g, h2]
        show q.1 + 1 + k = _
        omega
theorem nm_last {S : sv} {q : plv} (h : ¬ q.1 + 1 < sv_n S) : pq_nm S q := if_neg (fun r => h r.1)
theorem put_nm (S : sv) (x : Int64) : pq_nm S (pq_put S x) := by
  rcases it_or S (sv_n S - 1) (0, sv_hotter S, sv_of S (sv_ff S) 0, x) with h | h
  · exact h
  · refine nm_last ?_
    show ¬ (pq_it S (sv_n S - 1) (0, sv_hotter S, sv_of S (sv_ff S) 0, x)).1 + 1 < _
    rw [h]
    show ¬ 0 + (sv_n S - 1) + 1 < sv_n S
    omega
section
variable {N : Nat → Int32} {i : Nat}
theorem zg_in (ok : tl_ok N i) (hg : 1 ≤ (N 1).toInt ∧ (N 1).toInt ≤ 200) {j : Nat} (hj : j < rf_sp N i) : (1 ≤ zg N i j ∧ zg N i j ≤ 2200000) ∧ zg N i j ≤ 2200 * zf N i j := by
  have b1 := zl_in ok hg (j := j) (by omega)
  have b2 := zl_in ok hg (j := j + 1) (by omega)
  have b3 := zf_in ok hj
  have b4 := zl_dn ok hj
  unfold zg
  have h1 : (zl N i j - zl N i (j + 1)) * zf N i j ≤ 2200 * zf N i j := Int.mul_le_mul_of_nonneg_right (by omega) (by omega)
  have h2 : 1 * 1 ≤ (zl N i j - zl N i (j + 1)) * zf N i j := Int.mul_le_mul (by omega) (by omega) (by omega) (by omega)
  omega
theorem HH_le (ok : tl_ok N i) (hg : 1 ≤ (N 1).toInt ∧ (N 1).toInt ≤ 200) : ∀ d j, j + d ≤ rf_sp N i → HH N i j + d ≤ HH N i (j + d)
  | 0, _, _ => by rw [Nat.add_zero]; omega
  | d + 1, j, h => by
    have h1 := HH_le ok hg d j (by omega)
    have h2 := (zg_in ok hg (j := j + d) (by omega)).1
    rw [show j + (d + 1) = j + d + 1 by omega]
    show _ ≤ HH N i (j + d) + zg N i (j + d)
    omega
theorem HH_zt (N : Nat → Int32) (i : Nat) : ∀ k, HH N i k = zt (zg N i) k 0
  | 0 => rfl
  | k + 1 => by
    rw [zt_end, ← HH_zt N i k, Nat.zero_add]
    rfl
theorem HH_T (ok : tl_ok N i) (hg : 1 ≤ (N 1).toInt ∧ (N 1).toInt ≤ 200) (h1 : ¬ N (2 + 24 * i) = 1) : HH N i (rf_sp N i) = zT N i := by
  unfold zT
  rw [if_neg h1, HH_zt]
  refine zt_c _ _ (fun j _ hj => ?_)
  have b1 := zl_in ok hg (j := j) (by omega)
  have b2 := zl_in ok hg (j := j + 1) (by omega)
  have b4 := zl_dn ok (j := j) (by omega)
  have e : ov (zl N i j) (zl N i (j + 1)) 100000 (-1000) = zl N i j - zl N i (j + 1) := by
    unfold ov ov_t ov_b
    split <;> (try split) <;> (try split) <;> omega
  show _ = ov (zl N i j) (zl N i (j + 1)) 100000 (-1000) * zf N i j
  rw [e]
  rfl
theorem sv_of_at {S : sv} (h8 : sv_n S ≤ 8) (f : Nat → Int32) {j : Nat} (hj : j < sv_n S) : sv_of S f (nI j) = f j := by
  have e : (nI j).toInt = j := nI_toInt (by omega)
  unfold sv_of
  rw [if_pos (by rw [e]; omega), nI_clamp (by omega)]
theorem pq_hi (ok : tl_ok N i) (hg : 1 ≤ (N 1).toInt ∧ (N 1).toInt ≤ 200) {j : Nat} (hj : j < rf_sp N i) : (pq_h (tl_S N i) j).toInt = zg N i j := by
  have h8 := ok.2.2.1.2
  have b := (zg_in ok hg hj).1
  unfold pq_h
  rw [sv_of_at (S := tl_S N i) h8 _ hj, sv_of_at (S := tl_S N i) h8 _ hj, Int64.toInt_mul, rf_w, rf_w, zd ok hj]
  show Int.bmod (zg N i j) _ = _
  exact Int.bmod_eq_of_le (by omega) (by omega)
/-- what a place is -/
def pv (N : Nat → Int32) (i : Nat) (x : Int) (q : plv) : Prop := q.1 < rf_sp N i ∧ q.2.1.toInt = zl N i q.1 + tl_g N i ∧ q.2.2.1 = sv_ff (tl_S N i) q.1 ∧ q.2.2.2.toInt = x - HH N i q.1 ∧ HH N i q.1 ≤ x
theorem warm_in (ok : tl_ok N i) {j : Nat} (hj : j ≤ rf_sp N i) : 0 ≤ zl N i j + tl_g N i ∧ zl N i j + tl_g N i ≤ 2000 := by
  have h1 := tl_e_in ok (if N (2 + 24 * i + 1) = 1 then j else rf_sp N i - j) (by split <;> omega)
  unfold zl
  omega
theorem hotter_i (ok : tl_ok N i) (hg : 1 ≤ (N 1).toInt ∧ (N 1).toInt ≤ 200) : (sv_hotter (tl_S N i)).toInt = zl N i 0 + tl_g N i := by
  have e0 : (sv_top (tl_S N i) (N 1)).toInt = zl N i 0 := zl_lv ok hg (j := 0) (by omega)
  unfold sv_top at e0
  rw [show sv_hot (tl_S N i) = N (2 + 24 * i + 1) from rfl] at e0
  unfold tl_g
  rcases ok.1 with z | z
  · have z1 : ¬ N (2 + 24 * i + 1) = 1 := by rw [z]; decide
    rw [if_pos z] at e0
    rw [if_neg z1, Int.add_zero]
    exact e0
  · have z1 : ¬ N (2 + 24 * i + 1) = 0 := by rw [z]; decide
    rw [if_neg z1] at e0
    rw [if_pos z]
    have w := warm_in ok (j := 0) (by omega)
    unfold tl_g at w
    rw [if_pos z] at w
    have eh : sv_hotter (tl_S N i) = N (2 + 24 * i + 3) := if_neg z1
    have b := ok.2.1
    rw [eh] at e0 ⊢
    rw [Int32.toInt_sub, Int.bmod_eq_of_le (by omega) (by omega)] at e0
    omega
theorem HH_in (ok : tl_ok N i) (hg : 1 ≤ (N 1).toInt ∧ (N 1).toInt ≤ 200) : ∀ j, j ≤ rf_sp N i → 0 ≤ HH N i j ∧ HH N i j ≤ 2200000 * j
  | 0, _ => by show (0 : Int) ≤ 0 ∧ (0 : Int) ≤ 2200000 * ((0 : Nat) : Int); omega
  | j + 1, h => by
    have h1 := HH_in ok hg j (by omega)
    have h2 := (zg_in ok hg (j := j) (by omega)).1
    show 0 ≤ HH N i j + zg N i j ∧ HH N i j + zg N i j ≤ _
    omega
theorem pv_st (ok : tl_ok N i) (hg : 1 ≤ (N 1).toInt ∧ (N 1).toInt ≤ 200) {x : Int} (hx : 0 ≤ x ∧ x ≤ 10000000000) {q : plv} (h : pv N i x q) : pv N i x (pq_st (tl_S N i) q) := by
  rcases st_or (tl_S N i) q with e | ⟨⟨h1, h2⟩, e⟩
  · rw [e]
    exact h
  · rw [e]
    obtain ⟨a, b, c, d, f⟩ := h
    have h8 := ok.2.2.1.2
    have h1' : q.1 + 1 < rf_sp N i := h1
    have eh := pq_hi ok hg a
    have w1 := warm_in ok (j := q.1) (by omega)
    have w2 := warm_in ok (j := q.1 + 1) (by omega)
    have zg1 := (zg_in ok hg a).1
    have hh := HH_in ok hg q.1 (by omega)
    have l : zg N i q.1 ≤ x - HH N i q.1 := by
      rw [Int64.lt_iff_toInt_lt, eh, d] at h2
      omega
    refine ⟨h1', ?_, sv_of_at (S := tl_S N i) h8 _ h1, ?_, ?_⟩
    · show (q.2.1 - sv_fd (tl_S N i) q.1).toInt = zl N i (q.1 + 1) + tl_g N i
      rw [Int32.toInt_sub, b, zd ok a, Int.bmod_eq_of_le (by omega) (by omega)]
      omega
    · show (q.2.2.2 - pq_h (tl_S N i) q.1).toInt = x - (HH N i q.1 + zg N i q.1)
      rw [Int64.toInt_sub, d, eh, Int.bmod_eq_of_le (by omega) (by omega)]
      omega
    · show HH N i q.1 + zg N i q.1 ≤ x
      omega
theorem pv_it (ok : tl_ok N i) (hg : 1 ≤ (N 1).toInt ∧ (N 1).toInt ≤ 200) {x : Int} (hx : 0 ≤ x ∧ x ≤ 10000000000) : ∀ k {q : plv}, pv N i x q → pv N i x (pq_it (tl_S N i) k q)
  | 0, _, h => h
  | k + 1, _, h => pv_it ok hg hx k (pv_st ok hg hx h)
theorem pv_0 (ok : tl_ok N i) (hg : 1 ≤ (N 1).toInt ∧ (N 1).toInt ≤ 200) (hn : 1 ≤ rf_sp N i) (x : Int64) (hx : 0 ≤ x.toInt) : pv N i x.toInt (0, sv_hotter (tl_S N i), sv_of (tl_S N i) (sv_ff (tl_S N i)) 0, x) := by
  have h8 := ok.2.2.1.2
  refine ⟨hn, hotter_i ok hg, ?_, ?_, hx⟩
  · exact sv_of_at (S := tl_S N i) (j := 0) h8 _ hn
  · show x.toInt = x.toInt - 0
    omega
theorem pv_put (ok : tl_ok N i) (hg : 1 ≤ (N 1).toInt ∧ (N 1).toInt ≤ 200) (hn : 1 ≤ rf_sp N i) (x : Int64) (hx : 0 ≤ x.toInt ∧ x.toInt ≤ 10000000000) : pv N i x.toInt (pq_put (tl_S N i) x) := pv_it ok hg hx _ (pv_0 ok hg hn x hx.1)
theorem ad_it (ok : tl_ok N i) (hg : 1 ≤ (N 1).toInt ∧ (N 1).toInt ≤ 200) {x : Int} (hx : 0 ≤ x ∧ x ≤ 10000000000) {y : Int64} (hy : 0 ≤ y.toInt ∧ y.toInt ≤ 10000000000) : ∀ k (q : plv), pv N i x q → ∃ m, m ≤ k ∧ pq_it (tl_S N i) m (pq_ad q y) = pq_ad (pq_it (tl_S N i) k q) y
  | 0, q, _ => ⟨0, Nat.le_refl _, rfl⟩
  | k + 1, q, h => by
    rcases st_or (tl_S N i) q with e | ⟨⟨h1, h2⟩, e⟩
    · refine ⟨0, by omega, ?_⟩
      rw [it_nm e]
      rfl
    · obtain ⟨m, hm, em⟩ := ad_it ok hg hx hy k (pq_st (tl_S N i) q) (pv_st ok hg hx h)
      obtain ⟨a, b, c, d, f⟩ := h
      have eh := pq_hi ok hg a
      have zg1 := (zg_in ok hg a).1
      have hh := HH_in ok hg q.1 (by omega)
      have h8 := ok.2.2.1.2
      have ea : (q.2.2.2 + y).toInt = x - HH N i q.1 + y.toInt := by
        rw [Int64.toInt_add, d]
        exact Int.bmod_eq_of_le (by omega) (by omega)
      have mv : pq_st (tl_S N i) (pq_ad q y) = pq_ad (pq_st (tl_S N i) q) y := by
        have cnd : (pq_ad q y).1 + 1 < sv_n (tl_S N i) ∧ ¬ (pq_ad q y).2.2.2 < pq_h (tl_S N i) (pq_ad q y).1 := by
          refine ⟨h1, ?_⟩
          show ¬ q.2.2.2 + y < pq_h (tl_S N i) q.1
          rw [Int64.lt_iff_toInt_lt, ea, eh]
          rw [Int64.lt_iff_toInt_lt, d, eh] at h2
          omega
        rw [e]
        unfold pq_st
        rw [if_pos cnd]
        show (q.1 + 1, q.2.1 - sv_fd (tl_S N i) q.1, sv_of (tl_S N i) (sv_ff (tl_S N i)) (nI (q.1 + 1)), q.2.2.2 + y - pq_h (tl_S N i) q.1) = (q.1 + 1, q.2.1 - sv_fd (tl_S N i) q.1, sv_of (tl_S N i) (sv_ff (tl_S N i)) (nI (q.1 + 1)), q.2.2.2 - pq_h (tl_S N i) q.1 + y)
        rw [show q.2.2.2 + y - pq_h (tl_S N i) q.1 = q.2.2.2 - pq_h (tl_S N i) q.1 + y by grind]
      refine ⟨m + 1, by omega, ?_⟩
      show pq_it (tl_S N i) m (pq_st (tl_S N i) (pq_ad q y)) = pq_ad (pq_it (tl_S N i) k (pq_st (tl_S N i) q)) y
      rw [mv]
      exact em
theorem put_mv (ok : tl_ok N i) (hg : 1 ≤ (N 1).toInt ∧ (N 1).toInt ≤ 200) (hn : 1 ≤ rf_sp N i) {x y : Int64} (hx : 0 ≤ x.toInt ∧ x.toInt ≤ 10000000000) (hy : 0 ≤ y.toInt) (ht : y.toInt ≤ zg N i (pq_put (tl_S N i) x).1 - (pq_put (tl_S N i) x).2.2.2.toInt) : pq_mv (tl_S N i) (pq_put (tl_S N i) x) y = pq_put (tl_S N i) (x + y) := by
  have P := pv_put ok hg hn x hx
  have zg1 := (zg_in ok hg P.1).1
  have hh := HH_in ok hg _ (Nat.le_of_lt P.1)
  have h8 := ok.2.2.1.2
  have P4 := P.2.2.2.1
  have P5 := P.2.2.2.2
  obtain ⟨m, hm, em⟩ := ad_it ok hg hx (y := y) (by omega) (sv_n (tl_S N i) - 1) _ (pv_0 ok hg hn x hx.1)
  have e0 : pq_put (tl_S N i) (x + y) = pq_it (tl_S N i) (sv_n (tl_S N i) - 1 - m) (pq_ad (pq_put (tl_S N i) x) y) := by
    show pq_it (tl_S N i) (sv_n (tl_S N i) - 1) (pq_ad (0, sv_hotter (tl_S N i), sv_of (tl_S N i) (sv_ff (tl_S N i)) 0, x) y) = _
    rw [show sv_n (tl_S N i) - 1 = m + (sv_n (tl_S N i) - 1 - m) by omega, it_add, em, show m + (sv_n (tl_S N i) - 1 - m) - m = sv_n (tl_S N i) - 1 - m by omega]
    rfl
  have nm : pq_nm (tl_S N i) (pq_st (tl_S N i) (pq_ad (pq_put (tl_S N i) x) y)) := by
    rcases st_or (tl_S N i) (pq_ad (pq_put (tl_S N i) x) y) with e | ⟨⟨h1, h2⟩, e⟩
    · rw [e]
      exact e
    · rw [e]
      refine if_neg (fun r => r.2 ?_)
      have h1' : (pq_put (tl_S N i) x).1 + 1 < rf_sp N i := h1
      show (pq_put (tl_S N i) x).2.2.2 + y - pq_h (tl_S N i) (pq_put (tl_S N i) x).1 < pq_h (tl_S N i) ((pq_put (tl_S N i) x).1 + 1)
      have eh := pq_hi ok hg P.1
      have eh2 := pq_hi ok hg h1'
      have zg2 := (zg_in ok hg h1').1
      rw [Int64.lt_iff_toInt_lt, eh2, Int64.toInt_sub, Int64.toInt_add, eh, Int.bmod_eq_of_le (n := (pq_put (tl_S N i) x).2.2.2.toInt + y.toInt) (by omega) (by omega), Int.bmod_eq_of_le (by omega) (by omega)]
      omega
  show pq_st (tl_S N i) (pq_ad (pq_put (tl_S N i) x) y) = _
  rw [e0]
  generalize hr : sv_n (tl_S N i) - 1 - m = r at e0
  cases r with
  | zero =>
    have := put_nm (tl_S N i) (x + y)
    rw [e0] at this
    exact this
  | succ r =>
    show _ = pq_it (tl_S N i) r (pq_st (tl_S N i) (pq_ad (pq_put (tl_S N i) x) y))
    rw [it_nm nm]
/-- the reference's place is the same one -/
theorem pl_kd (ok : tl_ok N i) {j : Nat} (hj : j < rf_sp N i) : pl_d N i (pl_k N i (rf_sp N i) j) = (sv_fd (tl_S N i) j).toInt64 ∧ pl_f N i (pl_k N i (rf_sp N i) j) = (sv_ff (tl_S N i) j).toInt64 := by
  have h8 := ok.2.2.1.2
  unfold pl_d pl_f pl_k
  show _ = (sn_dn (N (2 + 24 * i + 1)) (rf_sp N i) (tl_d N i) (rf_sp N i) j).toInt64 ∧ _ = (sn_dn (N (2 + 24 * i + 1)) (rf_sp N i) (tl_q N i) (rf_sp N i) j).toInt64
  unfold sn_dn tl_d tl_q
  rcases ok.1 with z | z
  · have z1 : ¬ N (2 + 24 * i + 1) = 1 := by rw [z]; decide
    rw [if_pos z, if_pos z, if_neg z1, if_pos (by omega), if_pos (by omega), if_pos (by omega), if_pos (by omega), ← Nat.add_assoc, ← Nat.add_assoc]
    exact ⟨rfl, rfl⟩
  · have z1 : ¬ N (2 + 24 * i + 1) = 0 := by rw [z]; decide
    rw [if_neg z1, if_neg z1, if_pos z, if_pos (by omega), if_pos (by omega), if_pos (by omega), if_pos (by omega), ← Nat.add_assoc, ← Nat.add_assoc]
    exact ⟨rfl, rfl⟩
def pq_cv (S : sv) (q : plv) : Int64 × Int64 × Int64 × Int64 := (q.2.1.toInt64, q.2.2.2, q.2.2.1.toInt64, pq_h S q.1 - q.2.2.2)
theorem pl_it (ok : tl_ok N i) : ∀ d j (w : Int32) (left : Int64), j + (d + 1) = rf_sp N i → w.toInt = zl N i j + tl_g N i → pl_lp N i (rf_sp N i) (d + 1) j w.toInt64 left = pq_cv (tl_S N i) (pq_it (tl_S N i) d (j, w, sv_ff (tl_S N i) j, left))
  | d, j, w, left, hj, hw => by
    have h8 := ok.2.2.1.2
    obtain ⟨ed, ef⟩ := pl_kd ok (j := j) (by omega)
    have eh : pq_h (tl_S N i) j = (sv_fd (tl_S N i) j).toInt64 * (sv_ff (tl_S N i) j).toInt64 := by
      unfold pq_h
      rw [sv_of_at (S := tl_S N i) h8 _ (show j < rf_sp N i by omega), sv_of_at (S := tl_S N i) h8 _ (show j < rf_sp N i by omega)]
    unfold pl_lp
    rw [ed, ef, ← eh]
    by_cases z : left < pq_h (tl_S N i) j ∨ j = rf_sp N i - 1
    · rw [if_pos z]
      have nm : pq_nm (tl_S N i) (j, w, sv_ff (tl_S N i) j, left) := by
        refine if_neg (fun r => ?_)
        have r1 : j + 1 < rf_sp N i := r.1
        rcases z with z | z
        · exact r.2 z
        · omega
      rw [it_nm nm]
      rfl
    · rw [if_neg z]
      have z1 : ¬ left < pq_h (tl_S N i) j := fun r => z (Or.inl r)
      have z2 : ¬ j = rf_sp N i - 1 := fun r => z (Or.inr r)
      obtain ⟨e, rfl⟩ : ∃ e, d = e + 1 := ⟨d - 1, by omega⟩
      have w1 := warm_in ok (j := j) (by omega)
      have w2 := warm_in ok (j := j + 1) (by omega)
      have es : (w - sv_fd (tl_S N i) j).toInt = zl N i (j + 1) + tl_g N i := by
        rw [Int32.toInt_sub, hw, zd ok (by omega), Int.bmod_eq_of_le (by omega) (by omega)]
        omega
      have e6 : w.toInt64 - (sv_fd (tl_S N i) j).toInt64 = (w - sv_fd (tl_S N i) j).toInt64 := by
        apply Int64.toInt_inj.mp
        rw [Int64.toInt_sub, rf_w, rf_w, rf_w, es, hw, zd ok (by omega), Int.bmod_eq_of_le (by omega) (by omega)]
        omega
      have ih := pl_it ok e (j + 1) (w - sv_fd (tl_S N i) j) (left - pq_h (tl_S N i) j) (by omega) es
      rw [e6, ih]
      have st : pq_st (tl_S N i) (j, w, sv_ff (tl_S N i) j, left) = (j + 1, w - sv_fd (tl_S N i) j, sv_ff (tl_S N i) (j + 1), left - pq_h (tl_S N i) j) := by
        unfold pq_st
        rw [if_pos (show j + 1 < sv_n (tl_S N i) ∧ ¬ left < pq_h (tl_S N i) j from ⟨show j + 1 < rf_sp N i by omega, z1⟩)]
        show (j + 1, w - sv_fd (tl_S N i) j, sv_of (tl_S N i) (sv_ff (tl_S N i)) (nI (j + 1)), left - pq_h (tl_S N i) j) = _
        rw [sv_of_at (S := tl_S N i) h8 _ (show j + 1 < rf_sp N i by omega)]
      show _ = pq_cv (tl_S N i) (pq_it (tl_S N i) e (pq_st (tl_S N i) (j, w, sv_ff (tl_S N i) j, left)))
      rw [st]
theorem pl_put (ok : tl_ok N i) (hg : 1 ≤ (N 1).toInt ∧ (N 1).toInt ≤ 200) (h1 : ¬ N (2 + 24 * i) = 1) (hn : 1 ≤ rf_sp N i) (x : Int64) : pl_at N i x = pq_cv (tl_S N i) (pq_put (tl_S N i) x) := by
  have h8 := ok.2.2.1.2
  have et : pl_top N i = (sv_hotter (tl_S N i)).toInt64 := by
    unfold pl_top
    rcases ok.1 with z | z
    · have z1 : ¬ N (2 + 24 * i + 1) = 1 := by rw [z]; decide
      have eh : sv_hotter (tl_S N i) = N (2 + 24 * i + 3) + sn_far (tl_d N i) (rf_sp N i) := if_pos z
      rw [if_neg z1, eh, tl_end h8 _ (Nat.le_refl _), if_neg z1]
    · have z1 : ¬ N (2 + 24 * i + 1) = 0 := by rw [z]; decide
      have eh : sv_hotter (tl_S N i) = N (2 + 24 * i + 3) := if_neg z1
      rw [if_pos z, eh]
  unfold pl_at
  rw [if_neg h1, et]
  obtain ⟨d, hd⟩ : ∃ d, rf_sp N i = d + 1 := ⟨rf_sp N i - 1, by omega⟩
  have q := pl_it ok d 0 (sv_hotter (tl_S N i)) x (by omega) (hotter_i ok hg)
  have e2 : pl_lp N i (rf_sp N i) (rf_sp N i) 0 (sv_hotter (tl_S N i)).toInt64 x = pl_lp N i (rf_sp N i) (d + 1) 0 (sv_hotter (tl_S N i)).toInt64 x := by
    rw [← hd]
  rw [e2, q]
  unfold pq_put
  rw [show sv_n (tl_S N i) - 1 = d by show rf_sp N i - 1 = d; omega, show sv_of (tl_S N i) (sv_ff (tl_S N i)) 0 = sv_ff (tl_S N i) 0 from sv_of_at (S := tl_S N i) (j := 0) h8 _ hn]
end
