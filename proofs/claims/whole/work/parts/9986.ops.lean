/-! calls: forbid count -/
theorem nI_or (a b : Nat) : nI a ||| nI b = nI (a ||| b) := by
  apply Int32.toBitVec_inj.mp
  show BitVec.ofNat 32 a ||| BitVec.ofNat 32 b = BitVec.ofNat 32 (a ||| b)
  apply BitVec.eq_of_toNat_eq
  rw [BitVec.toNat_or, BitVec.toNat_ofNat, BitVec.toNat_ofNat, BitVec.toNat_ofNat, Nat.or_mod_two_pow]
theorem nI_and (a b : Nat) : nI a &&& nI b = nI (a &&& b) := by
  apply Int32.toBitVec_inj.mp
  show BitVec.ofNat 32 a &&& BitVec.ofNat 32 b = BitVec.ofNat 32 (a &&& b)
  apply BitVec.eq_of_toNat_eq
  rw [BitVec.toNat_and, BitVec.toNat_ofNat, BitVec.toNat_ofNat, BitVec.toNat_ofNat, Nat.and_mod_two_pow]
theorem fb_1 : ∀ c : Fin 12, (1 : Int32) <<< (nI c.1 &&& 31) = nI (2 ^ c.1) := by decide
theorem fb_0 : ∀ c : Fin 12, ((1 : Int32) <<< (nI c.1 &&& 31)) ^^^ -1 = nI (4294967295 - 2 ^ c.1) := by decide
theorem fb_t : ∀ c : Fin 12, ∀ j : Fin 12, (4294967295 - 2 ^ c.1).testBit j.1 = !decide (j.1 = c.1) := by decide
theorem fb_bit {m c : Nat} {i : Int32} (hm : m < 4096) (hc2 : c < 12) (hi : i = 0 ∨ i = 1) : ∃ m2, fb_v (nI m) (nI c) i = nI m2 ∧ m2 < 4096 ∧ ∀ j, j < 12 → m2.testBit j = if j = c then decide (i = 1) else m.testBit j := by
  unfold fb_v
  rcases hi with rfl | rfl
  · refine ⟨m &&& (4294967295 - 2 ^ c), ?_, Nat.lt_of_le_of_lt Nat.and_le_left hm, fun j hj => ?_⟩
    · rw [if_pos rfl, fb_0 ⟨c, hc2⟩, nI_and]
    · rw [Nat.testBit_and, fb_t ⟨c, hc2⟩ ⟨j, hj⟩]
      by_cases z : j = c
      · rw [if_pos z, decide_eq_true z, Bool.not_true, Bool.and_false]
        decide
      · rw [if_neg z, decide_eq_false z, Bool.not_false, Bool.and_true]
  · refine ⟨m ||| 2 ^ c, ?_, ?_, fun j hj => ?_⟩
    · rw [if_neg (by decide), fb_1 ⟨c, hc2⟩, nI_or]
    · exact Nat.or_lt_two_pow (n := 12) hm (Nat.pow_lt_pow_right (by decide) hc2)
    · rw [Nat.testBit_or, Nat.testBit_two_pow]
      by_cases z : j = c
      · rw [if_pos z, decide_eq_true z.symm, Bool.or_true]
        decide
      · rw [if_neg z, decide_eq_false (fun q => z q.symm), Bool.or_false]
section
variable {L : Nat} {xs : Nat → Int32} {k : Nat} {h : jx_H} {W : cw} {g : Nat → Option jx_E} {nx s : Nat} {X : Nat → Option jx_E} {R : rf_R} {B D U x : Nat} {T : tv}
theorem op_forbid (a c b : Int32) : lw_o (lw_K L xs) L xs 104 151 [.int a, .int c, .int (rf_o (¬ b = 0))] true := by
  intro k h p
  obtain ⟨W, g, nx, s, X, R, B, D, U, x, T, I⟩ := p
  have h78 := I.nx78
  have hM12 := I.tl.1.2.1
  have eM := lw_M I
  have h01 := lw_01 b
  generalize rf_o (¬ b = 0) = i at h01 ⊢
  have eh : rf_o (¬ i = 0) = i := by
    rcases h01 with rfl | rfl <;> decide
  by_cases hb : (0 ≤ a.toInt ∧ a.toInt < T.2.1) ∧ (0 ≤ c.toInt ∧ c.toInt < T.2.1)
  · obtain ⟨a, ha, rfl⟩ := lw_ltn hb.1
    obtain ⟨c, hc2, rfl⟩ := lw_ltn hb.2
    obtain ⟨ea, oka⟩ := I.tl.2.1 a ha
    obtain ⟨ec, okc⟩ := I.tl.2.1 c hc2
    have ha0 : sv_hot (T.2.2.1 a) = R.1 0 (2 + 24 * a + 1) := by rw [ea]; rfl
    have hc0 : sv_hot (T.2.2.1 c) = R.1 0 (2 + 24 * c + 1) := by rw [ec]; rfl
    by_cases z : R.1 0 (2 + 24 * a + 1) = 0 ∨ R.1 0 (2 + 24 * c + 1) = 1
    · refine lw_no I (kc_forbid_6 I.cn a c ha hc2 i ?_) (rc_forbid_6 56 R T.2.1 hM12 eM a c ha hc2 i z)
      rw [ha0, hc0]
      rcases z with z | z
      · exact Or.inl z
      · exact Or.inr (by rw [z]; decide)
    · have z1 : ¬ R.1 0 (2 + 24 * a + 1) = 0 := fun q => z (Or.inl q)
      have z2 : ¬ R.1 0 (2 + 24 * c + 1) = 1 := fun q => z (Or.inr q)
      have c0 : R.1 0 (2 + 24 * c + 1) = 0 := okc.1.resolve_right z2
      obtain ⟨g2, t, e, f, n2⟩ := kc_forbid (s := s) (by omega) I.free I.now a c ha hc2 i (by rw [ha0]; exact z1) (by rw [hc0]; exact c0)
      have ref := rc_forbid 56 R B D I.now.1.1 I.now.1.2.1 I.e2 I.e3 T.2.1 hM12 eM a c ha hc2 i z1 z2
      rw [eh] at ref
      obtain ⟨m, m1, m2, m3⟩ := I.tl.2.2.2.2 a (by omega)
      obtain ⟨m4, b1, b2, b3⟩ := fb_bit (i := i) m2 (show c < 12 by omega) h01
      refine lw_act I t e f n2 ref (I.tl.forb (fun j hj _ => upd_ne (by omega)) (by omega) ⟨m4, by rw [m1]; exact b1, b2, fun j hj => ?_⟩) ⟨by omega, by omega⟩ (by omega)
      rw [b3 j hj]
      by_cases y : j = c
      · rw [if_pos y, y, upd_eq]
        exact ⟨⟨fun q => of_decide_eq_true q, fun q => decide_eq_true q⟩, h01⟩
      · rw [if_neg y, upd_ne (by omega)]
        exact m3 j hj
  · exact lw_no I (kc_forbid_1 I.cn a c i hb) (rc_forbid_1 56 R T.2.1 hM12 eM a c i hb)
theorem fb_cnt {N : Nat → Int32} {m : Nat → Nat} {n : Nat} (hm : ∀ a, a < n → ∀ c, c < 12 → ((m a).testBit c = true ↔ N (678 + 12 * a + c) = 1) ∧ (N (678 + 12 * a + c) = 0 ∨ N (678 + 12 * a + c) = 1)) : ∀ a, a ≤ n → rf_fb N (12 * a) = nI (pf_s m a)
  | 0, _ => rfl
  | a + 1, ha => by
    have ih := fb_cnt hm a (by omega)
    have inner : ∀ c, c ≤ 12 → rf_fb N (12 * a + c) = nI (pf_s m a + bc_p (m a) c) := by
      intro c
      induction c with
      | zero => intro _; exact ih
      | succ c ih2 =>
        intro hc2
        have h1 := hm a (by omega) c (by omega)
        show rf_fb N (12 * a + c) + N (678 + (12 * a + c)) = nI (pf_s m a + (bc_p (m a) c + (if (m a).testBit c then 1 else 0)))
        rw [ih2 (by omega), ← Nat.add_assoc 678, ← Nat.add_assoc (pf_s m a)]
        rcases h1.2 with z | z
        · have : ¬ (m a).testBit c = true := fun q => by
            rw [h1.1.mp q] at z
            exact absurd z (by decide)
          rw [z, if_neg this]
          exact Int32.add_zero _
        · rw [z, if_pos (h1.1.mpr z)]
          exact nI_1 _
    show rf_fb N (12 * (a + 1)) = nI (pf_s m a + bc_p (m a) 12)
    rw [← inner 12 (Nat.le_refl _)]
    rfl
theorem op_count (w : Int32) : lw_o (lw_K L xs) L xs 111 204 [.int w] true := by
  intro k h p
  obtain ⟨W, g, nx, s, X, R, B, D, U, x, T, I⟩ := p
  have hm : ∀ i, i < 12 → T.2.2.2.2.2 i = nI (T.2.2.2.2.2 i).toNatClampNeg ∧ (T.2.2.2.2.2 i).toNatClampNeg < 4096 ∧ ∀ c, c < 12 → ((T.2.2.2.2.2 i).toNatClampNeg.testBit c = true ↔ R.1 0 (678 + 12 * i + c) = 1) ∧ (R.1 0 (678 + 12 * i + c) = 0 ∨ R.1 0 (678 + 12 * i + c) = 1) := by
    intro i hi
    obtain ⟨m, m1, m2, m3⟩ := I.tl.2.2.2.2 i hi
    rw [m1, nI_clamp (by omega)]
    exact ⟨rfl, m2, m3⟩
  have t := kc_count (W := W) (g := g) nx s I.cn (fun i => (T.2.2.2.2.2 i).toNatClampNeg) (fun i hi => ⟨(hm i hi).1, (hm i hi).2.1⟩) w
  have e : tv_cnt W T (fun i => (T.2.2.2.2.2 i).toNatClampNeg) w = rf_cnt R w := by
    unfold tv_cnt rf_cnt
    by_cases w0 : w = 0
    · rw [if_pos w0, if_pos w0]
      exact (lw_M I).symm
    rw [if_neg w0, if_neg w0]
    by_cases w1 : w = 1
    · rw [if_pos w1, if_pos w1]
      exact I.tl.1.2.2.1.symm
    rw [if_neg w1, if_neg w1]
    by_cases w2 : w = 2
    · rw [if_pos w2, if_pos w2, I.e3]
      exact I.now.1.2.2.2.1
    rw [if_neg w2, if_neg w2]
    by_cases w3 : w = 3
    · rw [if_pos w3, if_pos w3, I.e4]
      exact I.eU
    rw [if_neg w3, if_neg w3]
    by_cases w4 : w = 4
    · rw [if_pos w4, if_pos w4]
      exact (fb_cnt (n := 12) (fun a ha => (hm a ha).2.2) 12 (Nat.le_refl _)).symm
    rw [if_neg w4, if_neg w4]
    by_cases w5 : 5 ≤ w.toInt ∧ w.toInt ≤ 8
    · rw [if_pos w5, if_pos w5]
      have e5 : (w - 5).toInt = w.toInt - 5 := by
        rw [Int32.toInt_sub, show (5 : Int32).toInt = 5 from by decide]
        exact Int.bmod_eq_of_le (by omega) (by omega)
      exact (I.tl.2.2.2.1 (w - 5).toNatClampNeg (by show (w - 5).toInt.toNat < 4; omega)).1.symm
    · rw [if_neg w5, if_neg w5]
  rw [e] at t
  exact lw_no I t (rc_count 56 R w)
end
