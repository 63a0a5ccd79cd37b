/-! the heats of both networks -/
section
variable {N : Nat → Int32} {T : tv} {M : Nat}
theorem gr_lv_srt (N : Nat → Int32) : ∀ i, lv_srt (gr_lv N i)
  | 0 => List.Pairwise.nil
  | i + 1 => lv_all_srt (gr_lv_srt N i)
theorem tls.gL (t : tls T N) : ∀ i, i ≤ T.2.1 → pz_L T i = gr_lv N i
  | 0, _ => rfl
  | i + 1, hi => by
    have ih := tls.gL t i (by omega)
    obtain ⟨e, ok⟩ := t.2.1 i (by omega)
    show lv_all (pz_L T i) (sv_ls (T.2.2.1 i) T.1 (sv_n (T.2.2.1 i) + 1)) = lv_all (gr_lv N i) (lv_s N i (rf_sp N i + 1))
    rw [ih, e]
    refine lv_ext (lv_all_srt (gr_lv_srt N i)) (lv_all_srt (gr_lv_srt N i)) (fun x => ?_)
    rw [lv_all_mem, lv_all_mem, ← t.1.2.2.1, tl_ls_mem ok]
theorem gr_lv_mem {x : Int32} : ∀ M, x ∈ gr_lv N M ↔ ∃ i, i < M ∧ x ∈ lv_s N i (rf_sp N i + 1)
  | 0 => ⟨fun q => absurd q List.not_mem_nil, fun ⟨_, h, _⟩ => absurd h (Nat.not_lt_zero _)⟩
  | M + 1 => by
    have ih := gr_lv_mem (x := x) M
    show x ∈ lv_all (gr_lv N M) (lv_s N M (rf_sp N M + 1)) ↔ _
    rw [lv_all_mem, ih]
    constructor
    · rintro (⟨i, h1, h2⟩ | h)
      · exact ⟨i, by omega, h2⟩
      · exact ⟨M, by omega, h⟩
    · rintro ⟨i, h1, h2⟩
      by_cases y : i = M
      · rw [y] at h2
        exact Or.inr h2
      · exact Or.inl ⟨i, by omega, h2⟩
theorem gr_lv_ok (k : tk N M) (w : Int32) : lv_ok N w M (gr_lv N M) := by
  refine ⟨gr_lv_srt N M, fun x h => ?_, fun x h => ?_⟩
  · obtain ⟨i, hi, hx⟩ := (gr_lv_mem M).mp h
    obtain ⟨j, hj, e⟩ := z_lv_s (k.2.2 i hi) k.2.1 hx
    rw [e]
    exact zl_in (k.2.2 i hi) k.2.1 hj
  · obtain ⟨i, hi, -, hx⟩ := (lv_w_mem M).mp h
    exact (gr_lv_mem M).mpr ⟨i, hi, hx⟩
theorem gr_lv_z (k : tk N M) {i : Nat} (hi : i < M) {j : Nat} (hj : j ≤ rf_sp N i) : ∃ q, q < (gr_lv N M).length ∧ ((gr_lv N M).getD q 0).toInt = zl N i j := by
  obtain ⟨x, hx, e⟩ := lv_s_z (k.2.2 i hi) k.2.1 hj
  obtain ⟨q, hq, e2⟩ := ll_at ((gr_lv_mem M).mpr ⟨i, hi, hx⟩)
  exact ⟨q, hq, by rw [e2, e]⟩
theorem gr_lv_len (t : tls T N) : (gr_lv N T.2.1).length ≤ 108 := by
  rw [← t.gL _ (Nat.le_refl _)]
  have := pz_L_len t.tvo T.2.1 (Nat.le_refl _)
  have := t.k.1
  omega
theorem n3_iff {s : Nat} : ¬ 3 ≤ N (2 + 24 * s) ↔ N (2 + 24 * s) < 3 := by
  rw [Int32.le_iff_toInt_le, lv_i]
  omega
theorem bt_sp {i : Nat} (ok : tl_ok N i) (h : 3 ≤ N (2 + 24 * i)) : rf_sp N i = 0 ∧ (1 ≤ (N (2 + 24 * i + 5)).toInt ∧ (N (2 + 24 * i + 5)).toInt ≤ 1000) := by
  obtain ⟨-, -, -, c⟩ := ok
  rcases c with ⟨a, -⟩ | ⟨-, b, c, -⟩ | ⟨a, -⟩
  · rw [a] at h
    exact absurd h (by decide)
  · exact ⟨b, c⟩
  · rcases a with a | a <;> rw [a] at h <;> exact absurd h (by decide)
theorem hc_hr (t : tls T N) (w : Int32) {i p : Nat} (hi : i < T.2.1) (hp : p < 2 * (gr_lv N T.2.1).length) : (¬ 3 ≤ N (2 + 24 * i) → hcl T (gr_lv N T.2.1) w (240 * i + p) = hr N (gr_lv N T.2.1) (240 * i + p)) ∧ (3 ≤ N (2 + 24 * i) → (hcl T (gr_lv N T.2.1) w (240 * i + p) = w.toInt ∧ hr N (gr_lv N T.2.1) (240 * i + p) = 1125899906842624) ∨ (hcl T (gr_lv N T.2.1) w (240 * i + p) = 0 ∧ hr N (gr_lv N T.2.1) (240 * i + p) = 0)) := by
  have hL := gr_lv_len t
  obtain ⟨e, ok⟩ := t.2.1 i hi
  have hg := t.k.2.1
  have L1 := gr_lv_ok t.k 3
  obtain ⟨b1, -, -⟩ := tl_bt3 t hi
  have zz := fun j (hj : j ≤ rf_sp N i) => gr_lv_z t.k hi hj
  rw [hcl_at (by omega)]
  have er : hr N (gr_lv N T.2.1) (240 * i + p) = (gr_has N (gr_lv N T.2.1) i p).toInt := by
    unfold hr
    rw [show (240 * i + p) / 240 = i by omega, show (240 * i + p) % 240 = p by omega]
  rw [er]
  generalize gr_lv N T.2.1 = L at *
  have tg : T.1 = N 1 := t.1.2.2.1.symm
  have sdi : rf_sp N i = 0 → (sv_sd (T.2.2.1 i) T.1 (L.getD (p / 2) 0) ↔ rf_lvl N i (N (2 + 24 * i + 3)) = L.getD (p / 2) 0) := by
    intro n0
    rw [e, tg]
    show rf_sp N i = 0 ∧ sv_top (tl_S N i) (N 1) = _ ↔ _
    rw [tl_top0 ok n0]
    exact ⟨fun q => q.2, fun q => ⟨n0, q⟩⟩
  have fb0 : rf_sp N i = 0 → sv_fb (T.2.2.1 i) T.1 (L.getD (p / 2) 0) = 0 := by
    intro n0
    rw [e]
    unfold sv_fb
    rw [show sv_n (tl_S N i) = 0 from n0]
    exact ite_self _
  constructor
  · intro z
    have k3 := n3_iff.mp z
    unfold gr_has pz_h
    rw [if_neg z]
    by_cases y : N (2 + 24 * i) = 1
    · have n0 : rf_sp N i = 0 := (tl_1 ok k3).mpr y
      rw [if_pos y]
      by_cases l : p % 2 = 1
      · rw [if_pos l, fb0 n0, Int32.zero_mul, if_neg (by omega)]
        rfl
      · rw [if_neg l]
        by_cases q : rf_lvl N i (N (2 + 24 * i + 3)) = L.getD (p / 2) 0
        · rw [if_pos ((sdi n0).mpr q), if_neg (fun r => z (b1.mp r)), if_pos ⟨by omega, q⟩, e, tl_am ok, if_pos k3, if_pos y, rf_w]
        · rw [if_neg (fun r => q ((sdi n0).mp r)), if_neg (fun r => q r.2)]
          rfl
    · have nn : ¬ rf_sp N i = 0 := fun q => y ((tl_1 ok k3).mp q)
      rw [if_neg y]
      by_cases l : p % 2 = 1
      · rw [if_pos l]
        by_cases x : p / 2 + 1 < L.length
        · rw [if_pos ⟨l, x⟩, e, tg]
          have hl := ll_lt L1.1 (show p / 2 < p / 2 + 1 by omega) x
          have nb : ∀ j, j ≤ rf_sp N i → (L.getD (p / 2) 0).toInt ≤ zl N i j ∨ zl N i j ≤ (L.getD (p / 2 + 1) 0).toInt := by
            intro j hj
            obtain ⟨q, hq, e2⟩ := zz j hj
            rw [← e2]
            by_cases u : q ≤ p / 2
            · exact Or.inl (lv_le L1.1 u (by omega))
            · exact Or.inr (lv_le L1.1 (by omega) hq)
          have F := fb_zb ok hg hl nb
          obtain ⟨B, c1, c2⟩ := bw_i ok hg (L.getD (p / 2) 0) (L.getD (p / 2 + 1) 0)
          have b1 := L1.2.1 _ (lv_in (L := L) (k := p / 2) (by omega))
          have b2 := L1.2.1 _ (lv_in x)
          have ed : (lv_dp L (p / 2)).toInt = (L.getD (p / 2) 0).toInt - (L.getD (p / 2 + 1) 0).toInt := by
            unfold lv_dp
            rw [if_pos x, Int32.toInt_sub]
            exact Int.bmod_eq_of_le (by omega) (by omega)
          rw [Int32.toInt_mul, ed, F, B]
          exact Int.bmod_eq_of_le (by omega) (by omega)
        · rw [if_neg (fun q => x q.2)]
          have ed : lv_dp L (p / 2) = 0 := by
            unfold lv_dp
            rw [if_neg x]
          rw [ed, Int32.mul_zero]
          rfl
      · have ns : ¬ sv_sd (T.2.2.1 i) T.1 (L.getD (p / 2) 0) := fun q => by
          have q1 := q.1
          rw [e] at q1
          exact nn q1
        rw [if_neg l, if_neg ns, if_neg (fun q => l q.1)]
        rfl
  · intro z
    have n0 := (bt_sp ok z).1
    unfold gr_has pz_h
    rw [if_pos z]
    by_cases l : p % 2 = 1
    · right
      rw [if_pos l, fb0 n0, Int32.zero_mul, if_neg (by omega)]
      exact ⟨rfl, rfl⟩
    · rw [if_neg l]
      by_cases q : rf_lvl N i (N (2 + 24 * i + 3)) = L.getD (p / 2) 0
      · left
        rw [if_pos ((sdi n0).mpr q), if_pos (b1.mpr z), if_pos ⟨by omega, q⟩]
        exact ⟨rfl, rfl⟩
      · right
        rw [if_neg (fun r => q ((sdi n0).mp r)), if_neg (fun r => q r.2)]
        exact ⟨rfl, rfl⟩
theorem fs_pair (g : Nat → Int) : ∀ n, fl_sum g (2 * n) = fl_sum (fun k => g (2 * k) + g (2 * k + 1)) n
  | 0 => rfl
  | n + 1 => by
    have ih := fs_pair g n
    rw [show 2 * (n + 1) = 2 * n + 1 + 1 by omega]
    show fl_sum g (2 * n) + g (2 * n) + g (2 * n + 1) = fl_sum (fun k => g (2 * k) + g (2 * k + 1)) n + (g (2 * n) + g (2 * n + 1))
    rw [ih, Int.add_assoc]
/-- a stream's heats make its amount -/
theorem hr_sum (k : tk N M) {i : Nat} (hi : i < M) (h3 : ¬ 3 ≤ N (2 + 24 * i)) : fl_sum (fun p => (gr_has N (gr_lv N M) i p).toInt) (2 * (gr_lv N M).length) = zT N i := by
  have ok := k.2.2 i hi
  have hg := k.2.1
  have L1 := gr_lv_ok k 3
  have zz := fun j (hj : j ≤ rf_sp N i) => gr_lv_z k hi hj
  generalize gr_lv N M = L at *
  have k3 := n3_iff.mp h3
  rw [fs_pair]
  by_cases y : N (2 + 24 * i) = 1
  · have n0 : rf_sp N i = 0 := (tl_1 ok k3).mpr y
    have el : (rf_lvl N i (N (2 + 24 * i + 3))).toInt = zl N i 0 := by
      rw [← tl_top0 ok n0]
      exact zl_lv ok hg (j := 0) (by omega)
    obtain ⟨q, hq, eq⟩ := zz 0 (by omega)
    have eT : zT N i = (N (2 + 24 * i + 5)).toInt := if_pos y
    have one : ∀ e, e < L.length → (gr_has N L i (2 * e)).toInt + (gr_has N L i (2 * e + 1)).toInt = if e = q then (N (2 + 24 * i + 5)).toInt else 0 := by
      intro e he
      have o1 : gr_has N L i (2 * e + 1) = 0 := by
        unfold gr_has
        rw [if_neg h3, if_pos y, if_neg (by omega)]
      have o2 : (gr_has N L i (2 * e)).toInt = if e = q then (N (2 + 24 * i + 5)).toInt else 0 := by
        unfold gr_has
        rw [if_neg h3, if_pos y, show 2 * e / 2 = e by omega]
        by_cases w : e = q
        · rw [if_pos ⟨by omega, Int32.toInt_inj.mp (by rw [el, w, eq])⟩, if_pos w, rf_w]
        · rw [if_neg w, if_neg]
          · rfl
          · rintro ⟨-, r⟩
            have r2 : (L.getD e 0).toInt = (L.getD q 0).toInt := by rw [← r, el, eq]
            rcases Nat.lt_trichotomy e q with u | u | u
            · have := ll_lt L1.1 u hq
              omega
            · exact w u
            · have := ll_lt L1.1 u he
              omega
      rw [o1, o2]
      show _ + (0 : Int) = _
      rw [Int.add_zero]
    rw [fl_sum_congr _ one, fl_sum_one, if_pos hq, eT]
  · have nn : ¬ rf_sp N i = 0 := fun q => y ((tl_1 ok k3).mp q)
    have one : ∀ e, e < L.length → (gr_has N L i (2 * e)).toInt + (gr_has N L i (2 * e + 1)).toInt = if e + 1 < L.length then zb N i (L.getD e 0).toInt (L.getD (e + 1) 0).toInt else 0 := by
      intro e he
      have o1 : gr_has N L i (2 * e) = 0 := by
        unfold gr_has
        rw [if_neg h3, if_neg y, if_neg (by omega)]
      rw [o1]
      show (0 : Int) + _ = _
      rw [Int.zero_add]
      unfold gr_has
      rw [if_neg h3, if_neg y, show (2 * e + 1) / 2 = e by omega]
      by_cases x : e + 1 < L.length
      · rw [if_pos ⟨by omega, x⟩, if_pos x]
        exact (bw_i ok hg _ _).1
      · rw [if_neg (fun q => x q.2), if_neg x]
        rfl
    rw [fl_sum_congr _ one]
    obtain ⟨q0, hq0, -⟩ := zz 0 (by omega)
    have tele : ∀ m, m < L.length → fl_sum (fun e => if e + 1 < L.length then zb N i (L.getD e 0).toInt (L.getD (e + 1) 0).toInt else 0) m = zb N i (L.getD 0 0).toInt (L.getD m 0).toInt := by
      intro m
      induction m with
      | zero =>
        intro _
        symm
        refine zt_0 _ _ (fun j _ hj => ?_)
        have e2 : ov (zl N i j) (zl N i (j + 1)) (L.getD 0 0).toInt (L.getD 0 0).toInt = 0 := by
          unfold ov ov_t ov_b
          split <;> (try split) <;> (try split) <;> omega
        show ov (zl N i j) (zl N i (j + 1)) (L.getD 0 0).toInt (L.getD 0 0).toInt * _ = 0
        rw [e2, Int.zero_mul]
      | succ m ih =>
        intro hm
        show fl_sum (fun e => if e + 1 < L.length then zb N i (L.getD e 0).toInt (L.getD (e + 1) 0).toInt else 0) m + (if m + 1 < L.length then zb N i (L.getD m 0).toInt (L.getD (m + 1) 0).toInt else 0) = _
        rw [ih (by omega), if_pos hm]
        exact (zb_add (lv_le L1.1 (Nat.zero_le m) (by omega)) (lv_le L1.1 (by omega) hm)).symm
    obtain ⟨n, en⟩ : ∃ n, L.length = n + 1 := ⟨L.length - 1, by omega⟩
    have e1 : fl_sum (fun e => if e + 1 < L.length then zb N i (L.getD e 0).toInt (L.getD (e + 1) 0).toInt else 0) L.length = zb N i (L.getD 0 0).toInt (L.getD n 0).toInt := by
      rw [← tele n (by omega), en]
      show fl_sum _ n + (if n + 1 < n + 1 then _ else 0) = _
      rw [if_neg (by omega), Int.add_zero]
    rw [e1]
    have eT : zT N i = zb N i 100000 (-1000) := if_neg y
    have b0 := L1.2.1 _ (lv_in (L := L) (k := 0) (by omega))
    have bn := L1.2.1 _ (lv_in (L := L) (k := n) (by omega))
    have ln := lv_le L1.1 (Nat.zero_le n) (by omega)
    have t1 : zb N i 100000 (L.getD 0 0).toInt = 0 := zb_lo ok (fun j hj => by
      obtain ⟨q, hq, e⟩ := zz j hj
      rw [← e]
      exact lv_le L1.1 (Nat.zero_le q) hq)
    have t2 : zb N i (L.getD n 0).toInt (-1000) = 0 := zb_hi ok (fun j hj => by
      obtain ⟨q, hq, e⟩ := zz j hj
      rw [← e]
      exact lv_le L1.1 (by omega) (by omega))
    have a1 : zb N i 100000 (-1000) = zb N i 100000 (L.getD 0 0).toInt + zb N i (L.getD 0 0).toInt (-1000) := zb_add (by omega) (by omega)
    have a2 : zb N i (L.getD 0 0).toInt (-1000) = zb N i (L.getD 0 0).toInt (L.getD n 0).toInt + zb N i (L.getD n 0).toInt (-1000) := zb_add ln (by omega)
    rw [eT, a1, a2, t1, t2]
    omega
/-- all the heat of the hot ones, of the cold ones -/
def gI (N : Nat → Int32) (M : Nat) : Int := fl_sum (fun i => if 3 ≤ N (2 + 24 * i) then 0 else if hotB N i = true then zT N i else 0) M
def wI (N : Nat → Int32) (M : Nat) : Int := fl_sum (fun i => if 3 ≤ N (2 + 24 * i) then 0 else if hotB N i = true then 0 else zT N i) M
theorem gw_i (t : tls T N) : ∀ m, m ≤ T.2.1 → ((pz_gs T m).toInt = gI N m ∧ (0 ≤ gI N m ∧ gI N m + wI N m ≤ 17600000 * m)) ∧ ((pz_ws T m).toInt = wI N m ∧ 0 ≤ wI N m)
  | 0, _ => by
    refine ⟨⟨rfl, ?_⟩, rfl, ?_⟩
    · show (0 : Int) ≤ 0 ∧ (0 : Int) + 0 ≤ 17600000 * ((0 : Nat) : Int)
      omega
    · exact Int.le_refl 0
  | m + 1, hm => by
    obtain ⟨⟨h1, h2, h3⟩, h4, h5⟩ := gw_i t m (by omega)
    have hM := t.k.1
    obtain ⟨e, ok⟩ := t.2.1 m (by omega)
    obtain ⟨b1, b2, -⟩ := tl_bt3 t (i := m) (by omega)
    have zt1 := zT_in ok t.k.2.1
    have eg : gI N (m + 1) = gI N m + (if 3 ≤ N (2 + 24 * m) then 0 else if hotB N m = true then zT N m else 0) := rfl
    have ew : wI N (m + 1) = wI N m + (if 3 ≤ N (2 + 24 * m) then 0 else if hotB N m = true then 0 else zT N m) := rfl
    rw [eg, ew]
    unfold pz_gs pz_ws
    by_cases z : 3 ≤ N (2 + 24 * m)
    · rw [if_pos z, if_pos z, if_pos (b1.mpr z), if_pos (b1.mpr z), Int.add_zero, Int.add_zero]
      exact ⟨⟨h1, h2, by omega⟩, h4, h5⟩
    · rw [if_neg z, if_neg z, if_neg (fun q => z (b1.mp q)), if_neg (fun q => z (b1.mp q))]
      have am : (sv_am (T.2.2.1 m)).toInt = zT N m := by
        rw [e, am_total ok (n3_iff.mp z), total_i ok t.k.2.1]
      by_cases y : hotB N m = true
      · rw [if_pos y, if_pos y, if_neg (fun q => b2.mp q y), if_neg (fun q => b2.mp q y), Int32.toInt_add, Int32.add_zero, am, h1, Int.bmod_eq_of_le (by omega) (by omega)]
        exact ⟨⟨rfl, by omega, by omega⟩, by omega, by omega⟩
      · rw [if_neg y, if_neg y, if_pos (b2.mpr y), if_pos (b2.mpr y), Int32.add_zero, Int32.toInt_add, am, h4, Int.bmod_eq_of_le (by omega) (by omega)]
        exact ⟨⟨by omega, by omega, by omega⟩, rfl, by omega⟩
theorem w_i (t : tls T N) : (pz_w T).toInt = gI N T.2.1 + wI N T.2.1 ∧ (0 ≤ gI N T.2.1 + wI N T.2.1 ∧ gI N T.2.1 + wI N T.2.1 ≤ 211200000) := by
  obtain ⟨⟨h1, h2, h3⟩, h4, h5⟩ := gw_i t T.2.1 (Nat.le_refl _)
  have hM := t.k.1
  refine ⟨?_, by omega, by omega⟩
  unfold pz_w
  rw [Int32.toInt_add, h1, h4]
  exact Int.bmod_eq_of_le (by omega) (by omega)
theorem must_i (t : tls T N) : ∀ m, m ≤ T.2.1 → (pr_must N m).toInt = gI N m + wI N m
  | 0, _ => rfl
  | m + 1, hm => by
    have ih := must_i t m (by omega)
    obtain ⟨⟨-, h2, h3⟩, -, h5⟩ := gw_i t m (by omega)
    have hM := t.k.1
    obtain ⟨e, ok⟩ := t.2.1 m (by omega)
    have zt1 := zT_in ok t.k.2.1
    have eg : gI N (m + 1) = gI N m + (if 3 ≤ N (2 + 24 * m) then 0 else if hotB N m = true then zT N m else 0) := rfl
    have ew : wI N (m + 1) = wI N m + (if 3 ≤ N (2 + 24 * m) then 0 else if hotB N m = true then 0 else zT N m) := rfl
    rw [eg, ew]
    show (pr_must N m + (if N (2 + 24 * m) < 3 then (rf_total N m).toInt64 else 0)).toInt = _
    by_cases z : 3 ≤ N (2 + 24 * m)
    · rw [if_pos z, if_pos z, if_neg (fun q => n3_iff.mpr q z), Int64.add_zero, ih]
      omega
    · rw [if_neg z, if_neg z, if_pos (n3_iff.mp z), Int64.toInt_add, ih, rf_w, total_i ok t.k.2.1]
      rw [Int.bmod_eq_of_le (by omega) (by omega)]
      split <;> omega
end
