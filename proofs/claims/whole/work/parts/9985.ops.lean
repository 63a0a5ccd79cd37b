/-! calls: number about count meet -/
section
variable {N : Nat → Int32} {i : Nat}
theorem tl_end (hp : rf_sp N i ≤ 8) : ∀ j, j ≤ rf_sp N i → rf_end N i j = if N (2 + 24 * i + 1) = 1 then N (2 + 24 * i + 3) - sn_far (tl_d N i) j else N (2 + 24 * i + 3) + sn_far (tl_d N i) j
  | 0, _ => by
    unfold rf_end sn_far
    by_cases z : N (2 + 24 * i + 1) = 1
    · rw [if_pos z, Int32.sub_zero]
    · rw [if_neg z, Int32.add_zero]
  | j + 1, hj => by
    have ih := tl_end hp j (by omega)
    have ed : tl_d N i j = N (2 + 24 * i + (6 + 2 * j)) := by
      unfold tl_d
      rw [if_pos (by omega), Nat.add_assoc]
    unfold rf_end sn_far
    rw [ih, ed]
    by_cases z : N (2 + 24 * i + 1) = 1
    · rw [if_pos z, if_pos z, if_pos z, Int32.sub_eq_add_neg, Int32.sub_eq_add_neg, Int32.neg_add, Int32.add_assoc, Int32.sub_eq_add_neg]
    · rw [if_neg z, if_neg z, if_neg z, Int32.add_assoc]
theorem tl_tot (hp : rf_sp N i ≤ 8) : ∀ j, j ≤ rf_sp N i → rf_tot N i j = sn_sum 0 (tl_d N i) (tl_q N i) j
  | 0, _ => rfl
  | j + 1, hj => by
    have ih := tl_tot hp j (by omega)
    have ed : tl_d N i j = N (2 + 24 * i + (6 + 2 * j)) := by
      unfold tl_d
      rw [if_pos (by omega), Nat.add_assoc]
    have eq : tl_q N i j = N (2 + 24 * i + (7 + 2 * j)) := by
      unfold tl_q
      rw [if_pos (by omega), Nat.add_assoc]
    unfold rf_tot sn_sum
    rw [ih, ed, eq]
/-- what a stream has in all -/
theorem tl_am (ok : tl_ok N i) : sv_am (tl_S N i) = if N (2 + 24 * i) < 3 then (if N (2 + 24 * i) = 1 then N (2 + 24 * i + 5) else rf_tot N i (rf_sp N i)) else N (2 + 24 * i + 5) := by
  show sn_sum (N (2 + 24 * i + 5)) (tl_d N i) (tl_q N i) (rf_sp N i) = _
  obtain ⟨-, -, ⟨-, h8⟩, c⟩ := ok
  rw [tl_tot h8 _ (Nat.le_refl _)]
  rcases c with ⟨a, b, -⟩ | ⟨a, b, -⟩ | ⟨a, -, b, -⟩
  · rw [a, b, if_pos (by decide), if_pos rfl]
    rfl
  · have : ¬ N (2 + 24 * i) < 3 := by
      rcases a with ⟨a, -⟩ | ⟨a, -⟩ <;> rw [a] <;> decide
    rw [if_neg this, b]
    rfl
  · have h1 : N (2 + 24 * i) < 3 := by
      rcases a with a | a <;> rw [a] <;> decide
    have h2 : ¬ N (2 + 24 * i) = 1 := by
      rcases a with a | a <;> rw [a] <;> decide
    rw [if_pos h1, if_neg h2, b]
theorem tl_about (ok : tl_ok N i) (w : Int32) : sv_ab (tl_S N i) w = rf_abt N i (rf_sp N i) w := by
  have h01 := ok.1
  have h8 := ok.2.2.1
  unfold sv_ab rf_abt
  rw [tl_am ok, tl_end h8.2 _ (Nat.le_refl _)]
  have e1 : (if sv_hot (tl_S N i) = 0 then (0 : Int32) else 1) = N (2 + 24 * i + 1) := by
    show (if N (2 + 24 * i + 1) = 0 then (0 : Int32) else 1) = _
    rcases h01 with z | z <;> rw [z] <;> decide
  have e4 : (tl_S N i).2.2.2.2.1 = if N (2 + 24 * i + 1) = 1 then N (2 + 24 * i + 3) - sn_far (tl_d N i) (rf_sp N i) else N (2 + 24 * i + 3) + sn_far (tl_d N i) (rf_sp N i) := by
    show (if N (2 + 24 * i + 1) = 0 then N (2 + 24 * i + 3) + sn_far (tl_d N i) (rf_sp N i) else N (2 + 24 * i + 3) - sn_far (tl_d N i) (rf_sp N i)) = _
    rcases h01 with z | z
    · rw [z, if_pos rfl, if_neg (by decide)]
    · rw [z, if_neg (by decide), if_pos rfl]
  rw [e1, e4, h8.1]
  rfl
theorem tl_k (ok : tl_ok N i) : N (2 + 24 * i) < 3 ↔ ¬ (N (2 + 24 * i) = 3 ∨ N (2 + 24 * i) = 4) := by
  obtain ⟨-, -, -, c⟩ := ok
  rcases c with ⟨a, -⟩ | ⟨⟨a, -⟩ | ⟨a, -⟩, -⟩ | ⟨a | a, -⟩ <;> rw [a] <;> decide
end
theorem lw_ltn {a : Int32} {n : Nat} (h : 0 ≤ a.toInt ∧ a.toInt < n) : ∃ k, k < n ∧ a = nI k := by
  refine ⟨a.toNatClampNeg, ?_, ?_⟩
  · show a.toInt.toNat < n
    omega
  · have h1 := Int32.toInt_lt a
    apply Int32.toInt_inj.mp
    rw [nI_toInt (by show a.toInt.toNat < _; omega)]
    show a.toInt = (a.toInt.toNat : Int)
    omega
section
variable {L : Nat} {xs : Nat → Int32} {k : Nat} {h : jx_H} {W : cw} {g : Nat → Option jx_E} {nx s : Nat} {X : Nat → Option jx_E} {R : rf_R} {B D U x : Nat} {T : tv}
theorem op_about (a w : Int32) : lw_o (lw_K L xs) L xs 109 154 [.int a, .int w] true := by
  intro k h p
  obtain ⟨W, g, nx, s, X, R, B, D, U, x, T, I⟩ := p
  have hM12 := I.tl.1.2.1
  by_cases q : 0 ≤ a.toInt ∧ a.toInt < T.2.1
  · obtain ⟨j, hj, rfl⟩ := lw_ltn q
    have t := kc_about nx s I.cn j hj w
    obtain ⟨e, ok⟩ := I.tl.2.1 j hj
    rw [e, tl_about ok] at t
    exact lw_no I t (rc_about 56 R T.2.1 hM12 (lw_M I) j (rf_sp (R.1 0) j) hj ok.2.2.1.2 ok.2.2.1.1 w)
  · exact lw_no I (kc_about_no nx s I.cn a w q) (rc_about_no 56 R T.2.1 hM12 (lw_M I) a w q)
theorem op_number (a i : Int32) : lw_o (lw_K L xs) L xs 110 143 [.int a, .int i] true := by
  intro k h p
  obtain ⟨W, g, nx, s, X, R, B, D, U, x, T, I⟩ := p
  have sh : tv_sh T := by
    intro c Y hc e
    rcases I.tl.2.2.1 c hc with ⟨e0, -⟩ | ⟨Z, e0, -, -, -, z4, -⟩
    · rw [e0] at e
      cases e
    · rw [e0] at e
      cases e
      exact z4
  have t := kc_number nx s I.cn sh a i
  unfold tv_num at t
  by_cases q : 0 ≤ a.toInt ∧ a.toInt ≤ 7
  · obtain ⟨c, c7, rfl⟩ := lw_nat (n := 7) q
    rw [if_pos q, nI_clamp (by omega)] at t
    rcases I.tl.2.2.1 c (by omega) with ⟨e0, z⟩ | ⟨Y, e0, y1, y2, y3, y4, y5⟩
    · rw [e0] at t
      have r := rc_number 56 R c (by omega) i 0 (by omega) (by rw [z, if_pos rfl]; rfl)
      rw [if_neg (by omega)] at r
      exact lw_no I t r
    · rw [e0] at t
      have nz : ¬ R.1 0 (290 + 18 * c) = -1 := by
        rw [y1]
        intro z
        rw [z] at y2
        exact absurd y2.1 (by decide)
      have r := rc_number 56 R c (by omega) i Y.2.1 y4 (by rw [if_neg nz]; exact y3)
      have t : jx_T 110 0 (jx_ent 110 [.ref 1, .int (nI c), .int i]) [] (hc W g nx s) (some (.int (if 0 ≤ i.toInt ∧ i.toInt < Y.2.1 then Y.2.2 i.toNatClampNeg else -1))) (hc W g nx s) := t
      by_cases z : 0 ≤ i.toInt ∧ i.toInt < Y.2.1
      · rw [if_pos z] at t r
        rw [y5 i.toNatClampNeg (by show i.toInt.toNat < _; omega)] at t
        exact lw_no I t r
      · rw [if_neg z] at t r
        exact lw_no I t r
  · rw [if_neg q] at t
    exact lw_no I t (rc_number_bad 56 R a i q)
theorem op_meet (n a c q : Int32) : lw_o (lw_K L xs) L xs 105 177 [.int n, .int a, .int c, .int q] true := by
  intro k h p
  obtain ⟨W, g, nx, s, X, R, B, D, U, x, T, I⟩ := p
  have h78 := I.nx78
  have hM12 := I.tl.1.2.1
  have eM := lw_M I
  by_cases hb : (0 ≤ n.toInt ∧ n.toInt ≤ 3) ∧ (0 ≤ a.toInt ∧ a.toInt < T.2.1) ∧ (0 ≤ c.toInt ∧ c.toInt < T.2.1)
  · obtain ⟨b1, b2, b3⟩ := hb
    obtain ⟨n, n3, rfl⟩ := lw_nat (n := 3) b1
    obtain ⟨a, ha, rfl⟩ := lw_ltn b2
    obtain ⟨c, hc2, rfl⟩ := lw_ltn b3
    obtain ⟨m1, m2, m3⟩ := I.tl.2.2.2.1 n (by omega)
    obtain ⟨ea, oka⟩ := I.tl.2.1 a ha
    obtain ⟨ec, okc⟩ := I.tl.2.1 c hc2
    by_cases h20 : (T.2.2.2.2.1 n).1 < 20
    · by_cases hq : 1 ≤ q.toInt ∧ q.toInt ≤ 100000000
      · have ha0 : sv_hot (T.2.2.1 a) = R.1 0 (2 + 24 * a + 1) := by rw [ea]; rfl
        have hc0 : sv_hot (T.2.2.1 c) = R.1 0 (2 + 24 * c + 1) := by rw [ec]; rfl
        have ka0 : (T.2.2.1 a).1 = R.1 0 (2 + 24 * a) := by rw [ea]; rfl
        have kc0 : (T.2.2.1 c).1 = R.1 0 (2 + 24 * c) := by rw [ec]; rfl
        by_cases z : R.1 0 (2 + 24 * a) < 3 ∧ R.1 0 (2 + 24 * c) < 3 ∧ ¬ R.1 0 (2 + 24 * a + 1) = 0 ∧ ¬ R.1 0 (2 + 24 * c + 1) = 1
        · obtain ⟨z1, z2, z3, z4⟩ := z
          have a1 : R.1 0 (2 + 24 * a + 1) = 1 := oka.1.resolve_left z3
          have c0 : R.1 0 (2 + 24 * c + 1) = 0 := okc.1.resolve_right z4
          obtain ⟨g2, t, e, f, n2⟩ := kc_meet (s := s) (by omega) I.free I.now n a c q (by omega) ha hc2 h20 hq (by rw [ha0]; exact z3) (by rw [hc0]; exact c0) (by rw [ka0]; exact (tl_k oka).mp z1) (by rw [kc0]; exact (tl_k okc).mp z2)
          have N2o : ∀ j, ¬ (434 + 61 * n ≤ j ∧ j < 434 + 61 * n + 61) → rf_meN (R.1 0) n (T.2.2.2.2.1 n).1 (nI a) (nI c) q j = R.1 0 j := by
            intro j hj
            unfold rf_meN
            rw [upd_ne (by omega), upd_ne (by omega), upd_ne (by omega), upd_ne (by omega)]
          refine lw_act I t e f n2 (rc_meet 56 R B D I.now.1.1 I.now.1.2.1 I.e2 I.e3 T.2.1 hM12 eM n a c (T.2.2.2.2.1 n).1 (by omega) ha hc2 q h20 m1 hq z1 z2 z3 z4) (I.tl.net (k := n) (fun j hj _ => N2o j hj) (by omega) ⟨?_, h20, fun j hj => ?_⟩) ⟨by omega, by omega⟩ (by omega)
          · unfold rf_meN
            rw [upd_eq]
          · have hj : j < (T.2.2.2.2.1 n).1 + 1 := hj
            show (rf_meN (R.1 0) n (T.2.2.2.2.1 n).1 (nI a) (nI c) q (434 + 61 * n + 1 + 3 * j) = nt_ap (T.2.2.2.2.1 n).2.1 (T.2.2.2.2.1 n).1 (nI a) j ∧ rf_meN (R.1 0) n (T.2.2.2.2.1 n).1 (nI a) (nI c) q (434 + 61 * n + 1 + 3 * j + 1) = nt_ap (T.2.2.2.2.1 n).2.2.1 (T.2.2.2.2.1 n).1 (nI c) j ∧ rf_meN (R.1 0) n (T.2.2.2.2.1 n).1 (nI a) (nI c) q (434 + 61 * n + 1 + 3 * j + 2) = nt_ap (T.2.2.2.2.1 n).2.2.2 (T.2.2.2.2.1 n).1 q j) ∧ (1 ≤ (nt_ap (T.2.2.2.2.1 n).2.2.2 (T.2.2.2.2.1 n).1 q j).toInt ∧ (nt_ap (T.2.2.2.2.1 n).2.2.2 (T.2.2.2.2.1 n).1 q j).toInt ≤ 100000000) ∧ ∃ a2 c2, (a2 < T.2.1 ∧ c2 < T.2.1) ∧ (nt_ap (T.2.2.2.2.1 n).2.1 (T.2.2.2.2.1 n).1 (nI a) j = nI a2 ∧ nt_ap (T.2.2.2.2.1 n).2.2.1 (T.2.2.2.2.1 n).1 (nI c) j = nI c2) ∧ (rf_meN (R.1 0) n (T.2.2.2.2.1 n).1 (nI a) (nI c) q (2 + 24 * a2) < 3 ∧ rf_meN (R.1 0) n (T.2.2.2.2.1 n).1 (nI a) (nI c) q (2 + 24 * c2) < 3) ∧ rf_meN (R.1 0) n (T.2.2.2.2.1 n).1 (nI a) (nI c) q (2 + 24 * a2 + 1) = 1 ∧ rf_meN (R.1 0) n (T.2.2.2.2.1 n).1 (nI a) (nI c) q (2 + 24 * c2 + 1) = 0
            by_cases y : j = (T.2.2.2.2.1 n).1
            · subst y
              rw [nt_ap_eq, nt_ap_eq, nt_ap_eq]
              refine ⟨⟨?_, ?_, ?_⟩, hq, a, c, ⟨ha, hc2⟩, ⟨rfl, rfl⟩, ⟨?_, ?_⟩, ?_, ?_⟩
              · unfold rf_meN
                rw [upd_ne (by omega), upd_ne (by omega), upd_ne (by omega), upd_eq]
              · unfold rf_meN
                rw [upd_ne (by omega), upd_ne (by omega), upd_eq]
              · unfold rf_meN
                rw [upd_ne (by omega), upd_eq]
              · rw [N2o _ (by omega)]
                exact z1
              · rw [N2o _ (by omega)]
                exact z2
              · rw [N2o _ (by omega)]
                exact a1
              · rw [N2o _ (by omega)]
                exact c0
            · have hj2 : j < (T.2.2.2.2.1 n).1 := by omega
              obtain ⟨⟨w1, w2, w3⟩, w4, a2, c2, ⟨w5, w6⟩, w7, ⟨w8, w9⟩, w10, w11⟩ := m3 j hj2
              rw [nt_ap_lt hj2, nt_ap_lt hj2, nt_ap_lt hj2]
              refine ⟨⟨?_, ?_, ?_⟩, w4, a2, c2, ⟨w5, w6⟩, w7, ⟨?_, ?_⟩, ?_, ?_⟩
              · unfold rf_meN
                rw [upd_ne (by omega), upd_ne (by omega), upd_ne (by omega), upd_ne (by omega)]
                exact w1
              · unfold rf_meN
                rw [upd_ne (by omega), upd_ne (by omega), upd_ne (by omega), upd_ne (by omega)]
                exact w2
              · unfold rf_meN
                rw [upd_ne (by omega), upd_ne (by omega), upd_ne (by omega), upd_ne (by omega)]
                exact w3
              · rw [N2o _ (by omega)]
                exact w8
              · rw [N2o _ (by omega)]
                exact w9
              · rw [N2o _ (by omega)]
                exact w10
              · rw [N2o _ (by omega)]
                exact w11
        · refine lw_no I (kc_meet_6 I.cn n a c q (by omega) ha hc2 h20 hq ?_) (rc_meet_6 56 R T.2.1 hM12 eM n a c (T.2.2.2.2.1 n).1 (by omega) ha hc2 q h20 m1 hq z)
          rw [ha0, hc0, ka0, kc0]
          intro ⟨y1, y2, y3, y4⟩
          exact z ⟨(tl_k oka).mpr y3, (tl_k okc).mpr y4, y1, fun y => by rw [y2] at y; exact absurd y (by decide)⟩
      · exact lw_no I (kc_meet_3 I.cn n a c q (by omega) ha hc2 h20 hq) (rc_meet_3 56 R T.2.1 hM12 eM n a c (T.2.2.2.2.1 n).1 (by omega) ha hc2 q h20 m1 hq)
    · have e20 : (T.2.2.2.2.1 n).1 = 20 := by omega
      exact lw_no I (kc_meet_2 I.cn n a c q (by omega) ha hc2 e20) (rc_meet_2 56 R T.2.1 hM12 eM n a c (by omega) ha hc2 q (by rw [m1, e20]))
  · exact lw_no I (kc_meet_1 I.cn n a c q hb) (rc_meet_1 56 R T.2.1 hM12 eM n a c q hb)
end
