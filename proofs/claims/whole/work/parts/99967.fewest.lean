/-! call: fewest -/
theorem rf_pn_ip (ah be : Nat → Int64) (n : Nat) (heat : Int64) (k : Int32) : ∀ d i s, rf_pn ah be n heat k d i s = -1 ∨ ∃ j, i ≤ j ∧ j < i + d ∧ rf_pn ah be n heat k d i s = nI j ∧ rf_ip (ah j) (be j) n j heat
  | 0, _, _ => Or.inl rfl
  | d + 1, i, s => by
    unfold rf_pn
    by_cases z : rf_ip (ah i) (be i) n i heat
    · rw [if_pos z]
      by_cases y : s = k
      · rw [if_pos y]
        exact Or.inr ⟨i, by omega, by omega, rfl, z⟩
      · rw [if_neg y]
        rcases rf_pn_ip ah be n heat k d (i + 1) (s + 1) with h | ⟨j, h1, h2, h3⟩
        · exact Or.inl h
        · exact Or.inr ⟨j, by omega, by omega, h3⟩
    · rw [if_neg z]
      rcases rf_pn_ip ah be n heat k d (i + 1) s with h | ⟨j, h1, h2, h3⟩
      · exact Or.inl h
      · exact Or.inr ⟨j, by omega, by omega, h3⟩
theorem rf_pn_m1 (ah be : Nat → Int64) (n : Nat) (heat : Int64) : ∀ (d i : Nat) (s : Int32), (0 ≤ s.toInt ∧ s.toInt + d < 1000000) → rf_pn ah be n heat (-1) d i s = -1
  | 0, _, _, _ => rfl
  | d + 1, i, s, h => by
    unfold rf_pn
    have ne : ¬ s = -1 := fun q => by
      rw [q] at h
      have : (-1 : Int32).toInt = -1 := rfl
      omega
    have e1 : (s + 1).toInt = s.toInt + 1 := by
      rw [Int32.toInt_add, show (1 : Int32).toInt = 1 from rfl]
      exact Int.bmod_eq_of_le (by omega) (by omega)
    rw [if_neg ne, rf_pn_m1 ah be n heat d (i + 1) (s + 1) (by omega), rf_pn_m1 ah be n heat d (i + 1) s (by omega), ite_self]
def ss (l : List Int64) : Nat → Int64
  | 0 => 0
  | n + 1 => ss l n + l.getD n 0
theorem hs_ss (l : List Int64) : ∀ n, n ≤ l.length → hs l (2 ^ l.length - 1) n = ss l n
  | 0, _ => rfl
  | n + 1, h => by
    unfold hs ss
    rw [Nat.testBit_two_pow_sub_one, if_pos (decide_eq_true (by omega)), hs_ss l n (by omega)]
theorem ss_app (l : List Int64) (v : Int64) : ∀ n, n ≤ l.length → ss (l ++ [v]) n = ss l n
  | 0, _ => rfl
  | n + 1, h => by
    unfold ss
    rw [ss_app l v n (by omega), List.getD_eq_getElem?_getD, List.getD_eq_getElem?_getD, List.getElem?_append_left (by omega)]
theorem ss_add (l : List Int64) (v : Int64) : ss (fw_add l v) (fw_add l v).length = ss l l.length + v := by
  unfold fw_add
  by_cases z : v = 0
  · rw [if_pos z, z, Int64.add_zero]
  · rw [if_neg z, List.length_append]
    show ss (l ++ [v]) l.length + (l ++ [v]).getD l.length 0 = _
    rw [ss_app l v _ (Nat.le_refl _), List.getD_eq_getElem?_getD, List.getElem?_append_right (Nat.le_refl _), Nat.sub_self]
    rfl
theorem few_ans (l : List Int64) (hl : l.length ≤ 14) (h : ss l l.length = 0) : hf_ans l = pt_ans l := by
  unfold hf_ans hp_ans
  by_cases z : l.length = 0
  · unfold pt_ans
    rw [if_pos z, if_pos z, z]
    rfl
  · rw [if_neg z, ph_ans l (l.length - 1) (by omega) hl (by rw [hs_ss l _ (Nat.le_refl _)]; exact h)]
section
variable {N : Nat → Int32} {i M : Nat}
theorem tot_i (ok : tl_ok N i) (hg : 1 ≤ (N 1).toInt ∧ (N 1).toInt ≤ 200) : ∀ k, k ≤ rf_sp N i → (rf_tot N i k).toInt = bw_I N i 100000 (-1000) k
  | 0, _ => rfl
  | k + 1, hk => by
    have ih := tot_i ok hg k (by omega)
    have h8 := ok.2.2.1.2
    have b : 0 ≤ bw_I N i 100000 (-1000) k ∧ bw_I N i 100000 (-1000) k ≤ 2200000 * k := (tl_bw ok hg 100000 (-1000) k (by omega)).2
    have e1 := tl_e_in ok k (by omega)
    have e2 := tl_e_in ok (k + 1) hk
    have gb := tl_g_in (i := i) hg
    obtain ⟨hd, hq⟩ := tl_d_in ok (j := k) (by omega)
    have ed : N (2 + 24 * i + (6 + 2 * k)) = tl_d N i k := by
      unfold tl_d
      rw [if_pos (by omega), ← Nat.add_assoc]
    have eq : N (2 + 24 * i + (7 + 2 * k)) = tl_q N i k := by
      unfold tl_q
      rw [if_pos (by omega), ← Nat.add_assoc]
    have es : tl_e N i (k + 1) = if N (2 + 24 * i + 1) = 1 then tl_e N i k - (tl_d N i k).toInt else tl_e N i k + (tl_d N i k).toInt := rfl
    have eo : ov (tl_e N i k - tl_g N i) (tl_e N i (k + 1) - tl_g N i) 100000 (-1000) = (tl_d N i k).toInt := by
      rw [es] at e2 ⊢
      by_cases z : N (2 + 24 * i + 1) = 1
      · rw [if_pos z] at e2 ⊢
        unfold ov ov_t ov_b
        split <;> (try split) <;> (try split) <;> omega
      · rw [if_neg z] at e2 ⊢
        unfold ov ov_t ov_b
        split <;> (try split) <;> (try split) <;> omega
    have mb : 0 ≤ (tl_d N i k).toInt * (tl_q N i k).toInt ∧ (tl_d N i k).toInt * (tl_q N i k).toInt ≤ 2000000 := by
      constructor
      · exact Int.mul_nonneg (by omega) (by omega)
      · exact Int.le_trans (Int.mul_le_mul hd.2 hq.2 (by omega) (by omega)) (by decide)
    show (rf_tot N i k + N (2 + 24 * i + (6 + 2 * k)) * N (2 + 24 * i + (7 + 2 * k))).toInt = bw_I N i 100000 (-1000) k + ov (tl_e N i k - tl_g N i) (tl_e N i (k + 1) - tl_g N i) 100000 (-1000) * (tl_q N i k).toInt
    rw [eo, ed, eq, Int32.toInt_add, Int32.toInt_mul, ih, Int.bmod_eq_of_le (n := (tl_d N i k).toInt * (tl_q N i k).toInt) (by omega) (by omega)]
    exact Int.bmod_eq_of_le (by omega) (by omega)
/-- all the heat of a stream -/
def zT (N : Nat → Int32) (i : Nat) : Int := if N (2 + 24 * i) = 1 then (N (2 + 24 * i + 5)).toInt else zb N i 100000 (-1000)
theorem zT_in (ok : tl_ok N i) (hg : 1 ≤ (N 1).toInt ∧ (N 1).toInt ≤ 200) : 0 ≤ zT N i ∧ zT N i ≤ 17600000 := by
  unfold zT
  by_cases y : N (2 + 24 * i) = 1
  · have := tl_am_in ok y
    rw [if_pos y]
    omega
  · rw [if_neg y]
    exact (bw_i ok hg 100000 (-1000)).2
theorem total_i (ok : tl_ok N i) (hg : 1 ≤ (N 1).toInt ∧ (N 1).toInt ≤ 200) : (rf_total N i).toInt = zT N i := by
  unfold rf_total zT
  by_cases y : N (2 + 24 * i) = 1
  · rw [if_pos y, if_pos y]
  · rw [if_neg y, if_neg y, tot_i ok hg _ (Nat.le_refl _), bw_zb ok]
theorem am_total (ok : tl_ok N i) (k3 : N (2 + 24 * i) < 3) : sv_am (tl_S N i) = rf_total N i := by
  rw [tl_am ok, if_pos k3]
  rfl
def zTT (N : Nat → Int32) (w : Int32) : Nat → Int
  | 0 => 0
  | s + 1 => if rf_isb N s w = true then zTT N w s + (if N (2 + 24 * s + 1) = 1 then zT N s else -(zT N s)) else zTT N w s
theorem zD_bot (k : tk N M) {w x : Int32} (hx : -1000 ≤ x.toInt ∧ x.toInt ≤ 100000) (h : ∀ y, y ∈ lv_w N w M → x.toInt ≤ y.toInt) : ∀ s, s ≤ M → zD N w x s + zA N w x s = zTT N w s
  | 0, _ => rfl
  | s + 1, hs => by
    have ih := zD_bot k hx h s (by omega)
    have ok := k.2.2 s (by omega)
    unfold zD zA zTT
    by_cases z : rf_isb N s w = true
    · have hj : ∀ j, j ≤ rf_sp N s → x.toInt ≤ zl N s j := by
        intro j hj
        obtain ⟨y, hy, e⟩ := lv_s_z ok k.2.1 hj
        rw [← e]
        exact h y ((lv_w_mem M).mpr ⟨s, by omega, z, hy⟩)
      have e : zu N s x + zs N s x = zT N s := by
        by_cases y : N (2 + 24 * s) = 1
        · have e1 : zu N s x = if x.toInt < zl N s 0 then (N (2 + 24 * s + 5)).toInt else 0 := if_pos y
          have e2 : zT N s = (N (2 + 24 * s + 5)).toInt := if_pos y
          have := hj 0 (by omega)
          rw [e1, e2]
          by_cases q : zl N s 0 = x.toInt
          · have e3 : zs N s x = (N (2 + 24 * s + 5)).toInt := if_pos ⟨y, q⟩
            rw [e3, if_neg (show ¬ x.toInt < zl N s 0 by omega), Int.zero_add]
          · have e3 : zs N s x = 0 := if_neg (fun r => q r.2)
            rw [e3, if_pos (show x.toInt < zl N s 0 by omega), Int.add_zero]
        · have e1 : zu N s x = zb N s 100000 x.toInt := if_neg y
          have e2 : zT N s = zb N s 100000 (-1000) := if_neg y
          have e3 : zs N s x = 0 := if_neg (fun r => y r.1)
          rw [e1, e2, e3, Int.add_zero, zb_add (mid := x.toInt) hx.2 hx.1, zb_hi (lo := -1000) ok hj, Int.add_zero]
      rw [if_pos z, if_pos z, if_pos z, ← ih, ← e]
      split <;> omega
    · rw [if_neg z, if_neg z, if_neg z]
      exact ih
theorem hb_i (ok : tl_ok N i) (hg : 1 ≤ (N 1).toInt ∧ (N 1).toInt ≤ 200) (k3 : N (2 + 24 * i) < 3) (lv fl : Int32) : (sv_hb (tl_S N i) (N 1) lv fl).toInt = zu N i lv + (if fl = 0 then 0 else zs N i lv) := by
  by_cases y : N (2 + 24 * i) = 1
  · have n0 : rf_sp N i = 0 := (tl_1 ok k3).mpr y
    have el : (rf_lvl N i (N (2 + 24 * i + 3))).toInt = zl N i 0 := by
      rw [← tl_top0 ok n0]
      exact zl_lv ok hg (j := 0) (by omega)
    have e1 : zu N i lv = if lv.toInt < zl N i 0 then (N (2 + 24 * i + 5)).toInt else 0 := if_pos y
    rw [hb_st ok y, e1, el]
    by_cases q : zl N i 0 = lv.toInt
    · have e3 : zs N i lv = (N (2 + 24 * i + 5)).toInt := if_pos ⟨y, q⟩
      have q2 : rf_lvl N i (N (2 + 24 * i + 3)) = lv := Int32.toInt_inj.mp (el.trans q)
      rw [e3, if_neg (show ¬ lv.toInt < zl N i 0 by omega), Int.zero_add]
      by_cases f : fl = 0
      · rw [if_pos f, if_neg (fun r => r.elim (fun r => by omega) (fun r => r.1 f))]
        rfl
      · rw [if_neg f, if_pos (Or.inr ⟨f, q2⟩), rf_w]
    · have e3 : zs N i lv = 0 := if_neg (fun r => q r.2)
      rw [e3, ite_self, Int.add_zero]
      by_cases r : lv.toInt < zl N i 0
      · rw [if_pos r, if_pos (Or.inl r), rf_w]
      · rw [if_neg r, if_neg (fun r2 => r2.elim r (fun r2 => q (by rw [← el, r2.2])))]
        rfl
  · have e1 : zu N i lv = zb N i 100000 lv.toInt := if_neg y
    have e3 : zs N i lv = 0 := if_neg (fun r => y r.1)
    rw [e1, e3, ite_self, Int.add_zero, hb_bw ok hg lv fl (fun q => y ((tl_1 ok k3).mp q)), (bw_i ok hg 100000 lv).1]
    rfl
/-- a stream's heat on a side, as a whole number -/
def zh (N : Nat → Int32) (i : Nat) (lv sa b : Int32) (on : Bool) : Int := if on = true then (if b = 0 then zu N i lv + (if sa = 0 then 0 else zs N i lv) else zT N i - (zu N i lv + (if sa = 0 then 0 else zs N i lv))) else zT N i
def zX (N : Nat → Int32) (lv sa b : Int32) (on : Bool) : Nat → Int
  | 0 => 0
  | s + 1 => if rf_isb N s 3 = true then zX N lv sa b on s + (if N (2 + 24 * s + 1) = 1 then zh N s lv sa b on else -(zh N s lv sa b on)) else zX N lv sa b on s
theorem zh_in (ok : tl_ok N i) (hg : 1 ≤ (N 1).toInt ∧ (N 1).toInt ≤ 200) (lv sa b : Int32) (on : Bool) : -20000000 ≤ zh N i lv sa b on ∧ zh N i lv sa b on ≤ 20000000 := by
  have a := zu_in ok hg lv
  have c := zs_in ok lv
  have d := zT_in ok hg
  unfold zh
  split
  · split <;> split <;> omega
  · omega
theorem fh_i (ok : tl_ok N i) (hg : 1 ≤ (N 1).toInt ∧ (N 1).toInt ≤ 200) (k3 : N (2 + 24 * i) < 3) (lv sa b : Int32) (on : Bool) : (fh_h (tl_S N i) (N 1) lv sa b on).toInt = zh N i lv sa b on := by
  have a := zu_in ok hg lv
  have c := zs_in ok lv
  have d := zT_in ok hg
  have eh := hb_i ok hg k3 lv sa
  have ea : ((sv_am (tl_S N i)).toInt64).toInt = zT N i := by
    rw [rf_w, am_total ok k3, total_i ok hg]
  have bb : 0 ≤ zu N i lv + (if sa = 0 then 0 else zs N i lv) ∧ zu N i lv + (if sa = 0 then 0 else zs N i lv) ≤ 20000000 := by
    split <;> omega
  unfold fh_h zh
  by_cases o : on = true
  · rw [if_pos o, if_pos o]
    by_cases y : b = 0
    · rw [if_pos y, if_pos y, eh]
    · rw [if_neg y, if_neg y, Int64.toInt_sub, ea, eh]
      exact Int.bmod_eq_of_le (by omega) (by omega)
  · rw [if_neg o, if_neg o, ea]
theorem isb_k {s : Nat} (ok : tl_ok N s) : rf_isb N s 3 = true ↔ ¬ (N (2 + 24 * s) = 3 ∨ N (2 + 24 * s) = 4) := by
  unfold rf_isb
  rw [decide_eq_true_iff, ← tl_k ok]
  exact ⟨fun q => q.1, fun q => ⟨q, Or.inl rfl⟩⟩
theorem fs_i {T : tv} (t : tls T N) (lv sa b : Int32) (on : Bool) : ∀ s, s ≤ T.2.1 → (ss (fh_l T lv sa b on s) (fh_l T lv sa b on s).length).toInt = zX N lv sa b on s ∧ (-(20000000 * s) ≤ zX N lv sa b on s ∧ zX N lv sa b on s ≤ 20000000 * s)
  | 0, _ => ⟨rfl, by show -(20000000 * ((0 : Nat) : Int)) ≤ 0 ∧ (0 : Int) ≤ 20000000 * ((0 : Nat) : Int); omega⟩
  | s + 1, hs => by
    obtain ⟨ih, b1, b2⟩ := fs_i t lv sa b on s (by omega)
    obtain ⟨e, ok⟩ := t.2.1 s (by omega)
    have hM := t.k.1
    have zb2 := zh_in ok t.k.2.1 lv sa b on
    have e0 : (T.2.2.1 s).1 = N (2 + 24 * s) := by
      rw [e]
      rfl
    unfold fh_l zX
    rw [e0]
    by_cases z : rf_isb N s 3 = true
    · have z2 := (isb_k ok).mp z
      have k3 := isb_3 z
      rw [if_neg z2, if_pos z, ss_add, e, ← t.1.2.2.1]
      have ex : (fh_x (tl_S N s) (N 1) lv sa b on).toInt = if N (2 + 24 * s + 1) = 1 then zh N s lv sa b on else -(zh N s lv sa b on) := by
        unfold fh_x
        rw [show sv_hot (tl_S N s) = N (2 + 24 * s + 1) from rfl]
        have ef := fh_i ok t.k.2.1 k3 lv sa b on
        rcases ok.1 with q | q
        · have q1 : ¬ N (2 + 24 * s + 1) = 1 := by rw [q]; decide
          rw [if_pos q, if_neg q1, Int64.toInt_neg, ef]
          exact Int.bmod_eq_of_le (by omega) (by omega)
        · have q1 : ¬ N (2 + 24 * s + 1) = 0 := by rw [q]; decide
          rw [if_neg q1, if_pos q, ef]
      have bx : -20000000 ≤ (if N (2 + 24 * s + 1) = 1 then zh N s lv sa b on else -(zh N s lv sa b on)) ∧ (if N (2 + 24 * s + 1) = 1 then zh N s lv sa b on else -(zh N s lv sa b on)) ≤ 20000000 := by
        split <;> omega
      rw [Int64.toInt_add, ih, ex, Int.bmod_eq_of_le (by omega) (by omega)]
      exact ⟨rfl, by omega, by omega⟩
    · have z2 : N (2 + 24 * s) = 3 ∨ N (2 + 24 * s) = 4 := by
        by_cases q : N (2 + 24 * s) = 3 ∨ N (2 + 24 * s) = 4
        · exact q
        · exact absurd ((isb_k ok).mpr q) z
      rw [if_pos z2, if_neg z]
      exact ⟨ih, by omega, by omega⟩
theorem zX_eq (lv sa b : Int32) (on : Bool) : ∀ s, zX N lv sa b on s = if on = true then (if b = 0 then zD N 3 lv s + (if sa = 0 then 0 else zA N 3 lv s) else zTT N 3 s - (zD N 3 lv s + (if sa = 0 then 0 else zA N 3 lv s))) else zTT N 3 s
  | 0 => by
    show 0 = if on = true then (if b = 0 then (0 : Int) + (if sa = 0 then (0 : Int) else 0) else (0 : Int) - ((0 : Int) + (if sa = 0 then (0 : Int) else 0))) else (0 : Int)
    rw [ite_self]
    rw [show (0 : Int) + 0 = 0 from rfl, show (0 : Int) - 0 = 0 from rfl, ite_self, ite_self]
  | s + 1 => by
    have ih := zX_eq lv sa b on s
    unfold zX zD zA zTT
    by_cases z : rf_isb N s 3 = true
    · rw [if_pos z, if_pos z, if_pos z, if_pos z, ih]
      unfold zh
      by_cases o : on = true
      · rw [if_pos o, if_pos o, if_pos o]
        by_cases y : b = 0
        · rw [if_pos y, if_pos y, if_pos y]
          by_cases q : sa = 0
          · rw [if_pos q, if_pos q, if_pos q]
            split <;> omega
          · rw [if_neg q, if_neg q, if_neg q]
            split <;> omega
        · rw [if_neg y, if_neg y, if_neg y]
          by_cases q : sa = 0
          · rw [if_pos q, if_pos q, if_pos q]
            split <;> omega
          · rw [if_neg q, if_neg q, if_neg q]
            split <;> omega
      · rw [if_neg o, if_neg o, if_neg o]
    · rw [if_neg z, if_neg z, if_neg z, if_neg z, ih]
/-- the same list -/
theorem fl_p {T : tv} (t : tls T N) (lv sa gb b : Int32) (hsg : sa = 0 ↔ ¬ gb = 0) : ∀ s, s ≤ T.2.1 → fh_l T lv sa b true s = fw_p N b gb lv s
  | 0, _ => rfl
  | s + 1, hs => by
    have ih := fl_p t lv sa gb b hsg s (by omega)
    obtain ⟨e, ok⟩ := t.2.1 s (by omega)
    have e0 : (T.2.2.1 s).1 = N (2 + 24 * s) := by
      rw [e]
      rfl
    unfold fh_l fw_p
    rw [e0, ih]
    by_cases z : N (2 + 24 * s) < 3
    · have z2 := (tl_k ok).mp z
      have z3 : ¬ 3 ≤ N (2 + 24 * s) := by
        rw [Int32.le_iff_toInt_le]
        rw [lv_i] at z
        omega
      rw [if_neg z2, if_neg z3, e, ← t.1.2.2.1]
      have eu : sv_hb (tl_S N s) (N 1) lv sa = fw_up N gb lv s := by
        unfold fw_up
        by_cases y : N (2 + 24 * s) = 1
        · rw [hb_st ok y]
          unfold rf_ab
          rw [if_pos y]
          by_cases q : rf_lvl N s (N (2 + 24 * s + 3)) = lv
          · by_cases f : sa = 0
            · rw [if_pos (show N (2 + 24 * s) = 1 ∧ rf_lvl N s (N (2 + 24 * s + 3)) = lv ∧ ¬ gb = 0 from ⟨y, q, hsg.mp f⟩), if_neg]
              rintro (r | r)
              · rw [q] at r
                omega
              · exact r.1 f
            · rw [if_neg (show ¬ (N (2 + 24 * s) = 1 ∧ rf_lvl N s (N (2 + 24 * s + 3)) = lv ∧ ¬ gb = 0) from fun r => f (hsg.mpr r.2.2)), if_pos (show lv.toInt < (rf_lvl N s (N (2 + 24 * s + 3))).toInt ∨ (¬ sa = 0 ∧ rf_lvl N s (N (2 + 24 * s + 3)) = lv) from Or.inr ⟨f, q⟩), if_neg]
              rw [q, lv_i]
              omega
          · have q2 : ¬ (rf_lvl N s (N (2 + 24 * s + 3))).toInt = lv.toInt := fun r => q (Int32.toInt_inj.mp r)
            rw [if_neg (show ¬ (N (2 + 24 * s) = 1 ∧ rf_lvl N s (N (2 + 24 * s + 3)) = lv ∧ ¬ gb = 0) from fun r => q r.2.1)]
            by_cases r : lv.toInt < (rf_lvl N s (N (2 + 24 * s + 3))).toInt
            · rw [if_pos (show lv.toInt < (rf_lvl N s (N (2 + 24 * s + 3))).toInt ∨ (¬ sa = 0 ∧ rf_lvl N s (N (2 + 24 * s + 3)) = lv) from Or.inl r), if_neg]
              rw [lv_i]
              omega
            · rw [if_neg (show ¬ (lv.toInt < (rf_lvl N s (N (2 + 24 * s + 3))).toInt ∨ (¬ sa = 0 ∧ rf_lvl N s (N (2 + 24 * s + 3)) = lv)) from fun r2 => r2.elim r (fun r2 => q r2.2)), if_pos]
              rw [lv_i]
              omega
        · rw [if_neg (fun r => y r.1), hb_bw ok t.k.2.1 lv sa (fun q => y ((tl_1 ok z).mp q))]
          unfold rf_ab
          rw [if_neg y]
      have ex : fh_x (tl_S N s) (N 1) lv sa b true = if N (2 + 24 * s + 1) = 1 then fw_pt N b gb lv s else -(fw_pt N b gb lv s) := by
        have eh : fh_h (tl_S N s) (N 1) lv sa b true = fw_pt N b gb lv s := by
          unfold fh_h fw_pt
          rw [if_pos rfl, eu, am_total ok z]
        unfold fh_x
        rw [show sv_hot (tl_S N s) = N (2 + 24 * s + 1) from rfl, eh]
        rcases ok.1 with q | q
        · have q1 : ¬ N (2 + 24 * s + 1) = 1 := by rw [q]; decide
          rw [if_pos q, if_neg q1]
        · have q1 : ¬ N (2 + 24 * s + 1) = 0 := by rw [q]; decide
          rw [if_neg q1, if_pos q]
      rw [ex]
    · have z2 : N (2 + 24 * s) = 3 ∨ N (2 + 24 * s) = 4 := by
        by_cases q : N (2 + 24 * s) = 3 ∨ N (2 + 24 * s) = 4
        · exact q
        · exact absurd ((tl_k ok).mpr q) z
      have z3 : 3 ≤ N (2 + 24 * s) := by
        rw [Int32.le_iff_toInt_le]
        rw [lv_i] at z
        omega
      rw [if_pos z2, if_pos z3]
theorem fl_a {T : tv} (t : tls T N) (lv sa b : Int32) : ∀ s, s ≤ T.2.1 → fh_l T lv sa b false s = fw_a N s
  | 0, _ => rfl
  | s + 1, hs => by
    have ih := fl_a t lv sa b s (by omega)
    obtain ⟨e, ok⟩ := t.2.1 s (by omega)
    have e0 : (T.2.2.1 s).1 = N (2 + 24 * s) := by
      rw [e]
      rfl
    unfold fh_l fw_a
    rw [e0, ih]
    by_cases z : N (2 + 24 * s) < 3
    · have z2 := (tl_k ok).mp z
      have z3 : ¬ 3 ≤ N (2 + 24 * s) := by
        rw [Int32.le_iff_toInt_le]
        rw [lv_i] at z
        omega
      rw [if_neg z2, if_neg z3, e, ← t.1.2.2.1]
      have ex : fh_x (tl_S N s) (N 1) lv sa b false = if N (2 + 24 * s + 1) = 1 then (rf_total N s).toInt64 else (-(rf_total N s)).toInt64 := by
        have eh : fh_h (tl_S N s) (N 1) lv sa b false = (rf_total N s).toInt64 := by
          unfold fh_h
          rw [if_neg (by decide), am_total ok z]
        unfold fh_x
        rw [show sv_hot (tl_S N s) = N (2 + 24 * s + 1) from rfl, eh]
        rcases ok.1 with q | q
        · have q1 : ¬ N (2 + 24 * s + 1) = 1 := by rw [q]; decide
          have bt := zT_in ok t.k.2.1
          rw [← total_i ok t.k.2.1] at bt
          rw [if_pos q, if_neg q1]
          apply Int64.toInt_inj.mp
          rw [Int64.toInt_neg, rf_w, rf_w, Int32.toInt_neg, Int.bmod_eq_of_le (by omega) (by omega), Int.bmod_eq_of_le (by omega) (by omega)]
        · have q1 : ¬ N (2 + 24 * s + 1) = 0 := by rw [q]; decide
          rw [if_neg q1, if_pos q]
      rw [ex]
    · have z2 : N (2 + 24 * s) = 3 ∨ N (2 + 24 * s) = 4 := by
        by_cases q : N (2 + 24 * s) = 3 ∨ N (2 + 24 * s) = 4
        · exact q
        · exact absurd ((tl_k ok).mpr q) z
      have z3 : 3 ≤ N (2 + 24 * s) := by
        rw [Int32.le_iff_toInt_le]
        rw [lv_i] at z
        omega
      rw [if_pos z2, if_pos z3]
end
