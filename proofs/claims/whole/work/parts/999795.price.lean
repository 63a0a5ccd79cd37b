/-! call: price -/
section
variable {N : Nat → Int32} {T : tv}
theorem fs_const (c : Int) : ∀ m, fl_sum (fun _ => c) m = c * m
  | 0 => (Int.mul_zero c).symm
  | m + 1 => by
    show fl_sum (fun _ => c) m + c = c * ((m + 1 : Nat) : Int)
    rw [fs_const c m, Int.natCast_add, Int.mul_add]
    show _ = c * m + c * 1
    rw [Int.mul_one]
/-- a full plan's two costs -/
theorem cost_rel (t : tls T N) {S E : Nat → Int} (z7 : ∀ i p, i < T.2.1 → p < 2 * (gr_lv N T.2.1).length → (hotB N i = true → E (240 * i + p) = 0) ∧ (¬ hotB N i = true → S (240 * i + p) = 0)) (fu : ∀ i p, i < T.2.1 → p < 2 * (gr_lv N T.2.1).length → ¬ 3 ≤ N (2 + 24 * i) → (hotB N i = true → S (240 * i + p) = hr N (gr_lv N T.2.1) (240 * i + p)) ∧ (¬ hotB N i = true → E (240 * i + p) = hr N (gr_lv N T.2.1) (240 * i + p))) : sum2 T.2.1 (2 * (gr_lv N T.2.1).length) (fun i p => c2i N ((240 * i + p) / 240) * S (240 * i + p)) + sum2 T.2.1 (2 * (gr_lv N T.2.1).length) (fun i p => c2i N ((240 * i + p) / 240) * E (240 * i + p)) = sum2 T.2.1 (2 * (gr_lv N T.2.1).length) (fun i p => cst N ((240 * i + p) / 240) * S (240 * i + p)) + sum2 T.2.1 (2 * (gr_lv N T.2.1).length) (fun i p => cst N ((240 * i + p) / 240) * E (240 * i + p)) - 1000000 * (gI N T.2.1 + wI N T.2.1) := by
  have hL := gr_lv_len t
  have rS : sum2 T.2.1 (2 * (gr_lv N T.2.1).length) (fun i p => if 3 ≤ N (2 + 24 * i) then 0 else S (240 * i + p)) = gI N T.2.1 := by
    rw [← (real_g t).1]
    refine sum2_c (fun i p hi hp => ?_)
    by_cases z : 3 ≤ N (2 + 24 * i)
    · rw [if_pos z, if_pos z, ite_self]
    · rw [if_neg z, if_neg z]
      by_cases y : hotB N i = true
      · rw [if_pos y]
        exact (fu i p hi hp z).1 y
      · rw [if_neg y]
        exact (z7 i p hi hp).2 y
  have rE : sum2 T.2.1 (2 * (gr_lv N T.2.1).length) (fun i p => if 3 ≤ N (2 + 24 * i) then 0 else E (240 * i + p)) = wI N T.2.1 := by
    rw [← (real_g t).2]
    refine sum2_c (fun i p hi hp => ?_)
    by_cases z : 3 ≤ N (2 + 24 * i)
    · rw [if_pos z, if_pos z, ite_self]
    · rw [if_neg z, if_neg z]
      by_cases y : hotB N i = true
      · rw [if_pos y]
        exact (z7 i p hi hp).1 y
      · rw [if_neg y]
        exact (fu i p hi hp z).2 y
  have one : ∀ F : Nat → Int, sum2 T.2.1 (2 * (gr_lv N T.2.1).length) (fun i p => c2i N ((240 * i + p) / 240) * F (240 * i + p)) = sum2 T.2.1 (2 * (gr_lv N T.2.1).length) (fun i p => cst N ((240 * i + p) / 240) * F (240 * i + p)) - 1000000 * sum2 T.2.1 (2 * (gr_lv N T.2.1).length) (fun i p => if 3 ≤ N (2 + 24 * i) then 0 else F (240 * i + p)) := by
    intro F
    rw [← sum2_mul, ← sum2_sub]
    refine sum2_c (fun i p hi hp => ?_)
    rw [code_d hp (by omega)]
    have gc := (gcost_i t.k hi).1
    unfold c2i
    rw [gc]
    by_cases z : 3 ≤ N (2 + 24 * i)
    · rw [if_pos z, if_pos z]
      omega
    · have e : cst N i = 0 := if_neg z
      rw [if_neg z, if_neg z, e]
      omega
  rw [one S, one E, rS, rE]
  omega
/-- from the works to the reference -/
theorem price_F (t : tls T N) {r : Nat → Int} (ok : fl_ok (pz_A T).length (pcap (pz_A T)) r) (dv : fl_div (pz_A T).length (pT (pz_A T)) (pY (pz_A T)) r 0 1 (gI N T.2.1 + wI N T.2.1)) : ∃ r2 D, fl_ok (gr_A N T.2.1).length (pcap (gr_A N T.2.1)) r2 ∧ fl_div (gr_A N T.2.1).length (pT (gr_A N T.2.1)) (pY (gr_A N T.2.1)) r2 2880 2881 D ∧ fl_cost (gr_A N T.2.1).length (pC (gr_A N T.2.1)) r2 = fl_cost (pz_A T).length (pC (pz_A T)) r - 1000000 * (gI N T.2.1 + wI N T.2.1) ∧ ∀ e, e < (gr_A N T.2.1).length → pC (gr_A N T.2.1) (2 * e) = -1000000 → r2 (2 * e) = 0 := by
  have hM := t.k.1
  have hL := gr_lv_len t
  have len := cls_len t
  have P := pl_of hM (show 2 * (gr_lv N T.2.1).length ≤ 240 by omega) (kty t) (r0_of ok) (kcv (N := N) dv)
  have bnd : ∀ χ : Nat → Nat → Int, (∀ a b, χ a b ≤ 1) → Ph (pz_A T).length (rO r) (kT N T) (kY N T) χ ≤ 2 ^ 50 := by
    intro χ hχ
    have h1 : Ph (pz_A T).length (rO r) (kT N T) (kY N T) χ ≤ fl_sum (fun _ => 211200000) (pz_A T).length := by
      refine fl_sum_le _ (fun e he => ?_)
      have o := ok e he
      have a := cls_all t (getD_mem he)
      have ec : pcap (pz_A T) e = ((pz_A T).getD e gd).2.2.1.toInt := rfl
      have q : rO r e * χ (kT N T e) (kY N T e) ≤ rO r e * 1 := Int.mul_le_mul_of_nonneg_left (hχ _ _) (r0_of ok e he)
      rw [Int.mul_one] at q
      have : rO r e ≤ 211200000 := by
        show r (2 * e + 1) ≤ 211200000
        omega
      omega
    rw [fs_const] at h1
    omega
  have zi1 : ∀ (Q : Prop) [Decidable Q], zi Q ≤ 1 := fun Q _ => by
    unfold zi
    split <;> decide
  have fu : ∀ i p, i < T.2.1 → p < 2 * (gr_lv N T.2.1).length → ¬ 3 ≤ N (2 + 24 * i) → (hotB N i = true → kS N T r (240 * i + p) = hr N (gr_lv N T.2.1) (240 * i + p)) ∧ (¬ hotB N i = true → kE N T r (240 * i + p) = hr N (gr_lv N T.2.1) (240 * i + p)) := by
    intro i p hi hp z
    have q := k_capf t ok dv hi hp z
    rw [(hc_hr t (pz_w T) hi hp).1 z] at q
    exact q
  obtain ⟨r2, D, o2, d2, c2, f2⟩ := ref_back t P (fun i p hi hp => by
    have q := k_caps t ok hi hp
    have h := (hcl_in t hi hp).2.2
    exact ⟨fun y => Int.le_trans (q.1 y) h, fun y => Int.le_trans (q.2 y) h⟩) (fun c => Int.le_trans (fK_le (r0_of ok) c) (bnd _ (fun a b => zi1 _))) (fun j c => bnd _ (fun a b => zi1 _))
  refine ⟨r2, D, o2, d2, ?_, f2 fu⟩
  rw [c2, k_cost t]
  exact cost_rel t P.2.2.2.2.2.2 fu
/-- from the reference to the works -/
theorem price_G (t : tls T N) {r : Nat → Int} {D : Int} (ok : fl_ok (gr_A N T.2.1).length (pcap (gr_A N T.2.1)) r) (dv : fl_div (gr_A N T.2.1).length (pT (gr_A N T.2.1)) (pY (gr_A N T.2.1)) r 2880 2881 D) (full : ∀ e, e < (gr_A N T.2.1).length → pC (gr_A N T.2.1) (2 * e) = -1000000 → r (2 * e) = 0) : ∃ r1, fl_ok (pz_A T).length (pcap (pz_A T)) r1 ∧ fl_div (pz_A T).length (pT (pz_A T)) (pY (pz_A T)) r1 0 1 (gI N T.2.1 + wI N T.2.1) ∧ fl_cost (pz_A T).length (pC (pz_A T)) r1 - 1000000 * (gI N T.2.1 + wI N T.2.1) = fl_cost (gr_A N T.2.1).length (pC (gr_A N T.2.1)) r := by
  have hM := t.k.1
  have hL := gr_lv_len t
  have hQ : 2 * (gr_lv N T.2.1).length ≤ 240 := by omega
  have w1 := w_i t
  obtain ⟨x1, x2, x3, x4, x5⟩ := aux_i t
  have P := pl_of hM hQ (ref_ty t) (r0_of ok) (ref_cv0 _ dv)
  have P0 := P
  obtain ⟨P1, P2, P3, P4, P5, P6, P7⟩ := P
  have fu := fun i p (hi : i < T.2.1) (hp : p < 2 * (gr_lv N T.2.1).length) (z : ¬ 3 ≤ N (2 + 24 * i)) => ref_capf t ok full hi hp z
  have cp := fun i p (hi : i < T.2.1) (hp : p < 2 * (gr_lv N T.2.1).length) => ref_caps t ok hi hp
  have tot1 : sum2 T.2.1 (2 * (gr_lv N T.2.1).length) (fun i p => rS (gr_A N T.2.1) r (240 * i + p)) = Ph (gr_A N T.2.1).length (rO r) (aT (gr_A N T.2.1)) (aY (gr_A N T.2.1)) (fun a b => zi (a = 2880 ∧ b < 2880)) := by
    have q := PhS (r := rO r) hM hQ (ref_ty t) (fun _ => 1)
    refine Eq.trans ?_ q
    exact sum2_c (fun i p _ _ => (Int.one_mul _).symm)
  have tot2 : sum2 T.2.1 (2 * (gr_lv N T.2.1).length) (fun i p => rE (gr_A N T.2.1) r (240 * i + p)) = Ph (gr_A N T.2.1).length (rO r) (aT (gr_A N T.2.1)) (aY (gr_A N T.2.1)) (fun a b => zi (b = 2881 ∧ a < 2880)) := by
    have q := PhE (r := rO r) hM hQ (ref_ty t) (fun _ => 1)
    refine Eq.trans ?_ q
    exact sum2_c (fun i p _ _ => (Int.one_mul _).symm)
  have bal : sum2 T.2.1 (2 * (gr_lv N T.2.1).length) (fun i p => rS (gr_A N T.2.1) r (240 * i + p)) = sum2 T.2.1 (2 * (gr_lv N T.2.1).length) (fun i p => rE (gr_A N T.2.1) r (240 * i + p)) := by
    rw [tot1, tot2]
    exact TS_TE (ref_ty t) (ref_cv0 _ dv)
  have rSg : sum2 T.2.1 (2 * (gr_lv N T.2.1).length) (fun i p => if 3 ≤ N (2 + 24 * i) then 0 else rS (gr_A N T.2.1) r (240 * i + p)) = gI N T.2.1 := by
    rw [← (real_g t).1]
    refine sum2_c (fun i p hi hp => ?_)
    by_cases z : 3 ≤ N (2 + 24 * i)
    · rw [if_pos z, if_pos z, ite_self]
    · rw [if_neg z, if_neg z]
      by_cases y : hotB N i = true
      · rw [if_pos y]
        exact (fu i p hi hp z).1 y
      · rw [if_neg y]
        exact (P7 i p hi hp).2 y
  have rEw : sum2 T.2.1 (2 * (gr_lv N T.2.1).length) (fun i p => if 3 ≤ N (2 + 24 * i) then 0 else rE (gr_A N T.2.1) r (240 * i + p)) = wI N T.2.1 := by
    rw [← (real_g t).2]
    refine sum2_c (fun i p hi hp => ?_)
    by_cases z : 3 ≤ N (2 + 24 * i)
    · rw [if_pos z, if_pos z, ite_self]
    · rw [if_neg z, if_neg z]
      by_cases y : hotB N i = true
      · rw [if_pos y]
        exact (P7 i p hi hp).1 y
      · rw [if_neg y]
        exact (fu i p hi hp z).2 y
  have bs : sum2 T.2.1 (2 * (gr_lv N T.2.1).length) (fun i p => if 3 ≤ N (2 + 24 * i) then rS (gr_A N T.2.1) r (240 * i + p) else 0) ≤ wI N T.2.1 := by
    have q := bS_le (bt := fun i => decide (3 ≤ N (2 + 24 * i))) (r0_of ok) (ref_ty t) (ref_cv0 _ dv) (fun j i jm hj hm h => by
      have h1 : 3 ≤ N (2 + 24 * j) := of_decide_eq_true h.1
      have h2 : 3 ≤ N (2 + 24 * i) := of_decide_eq_true h.2
      exact hm.2.2 ⟨h2, ((tl_bt3 t jm).2.2 h1).mp hj⟩)
    have q1 := PhS (r := rO r) hM hQ (ref_ty t) (fun c => zi (decide (3 ≤ N (2 + 24 * (c / 240))) = true))
    have q2 := PhE (r := rO r) hM hQ (ref_ty t) (fun c => zi (¬ decide (3 ≤ N (2 + 24 * (c / 240))) = true))
    rw [← q1, ← q2] at q
    have u1 : sum2 T.2.1 (2 * (gr_lv N T.2.1).length) (fun i p => zi (decide (3 ≤ N (2 + 24 * ((240 * i + p) / 240))) = true) * fS (gr_A N T.2.1).length (rO r) (aT (gr_A N T.2.1)) (aY (gr_A N T.2.1)) (240 * i + p)) = sum2 T.2.1 (2 * (gr_lv N T.2.1).length) (fun i p => if 3 ≤ N (2 + 24 * i) then rS (gr_A N T.2.1) r (240 * i + p) else 0) := by
      refine sum2_c (fun i p hi hp => ?_)
      rw [code_d hp (by omega)]
      by_cases z : 3 ≤ N (2 + 24 * i)
      · rw [if_pos z, show zi (decide (3 ≤ N (2 + 24 * i)) = true) = 1 from if_pos (decide_eq_true z), Int.one_mul]
        rfl
      · rw [if_neg z, show zi (decide (3 ≤ N (2 + 24 * i)) = true) = 0 from if_neg (fun h => z (of_decide_eq_true h)), Int.zero_mul]
    have u2 : sum2 T.2.1 (2 * (gr_lv N T.2.1).length) (fun i p => zi (¬ decide (3 ≤ N (2 + 24 * ((240 * i + p) / 240))) = true) * fE (gr_A N T.2.1).length (rO r) (aT (gr_A N T.2.1)) (aY (gr_A N T.2.1)) (240 * i + p)) = sum2 T.2.1 (2 * (gr_lv N T.2.1).length) (fun i p => if 3 ≤ N (2 + 24 * i) then 0 else rE (gr_A N T.2.1) r (240 * i + p)) := by
      refine sum2_c (fun i p hi hp => ?_)
      rw [code_d hp (by omega)]
      by_cases z : 3 ≤ N (2 + 24 * i)
      · rw [if_pos z, show zi (¬ decide (3 ≤ N (2 + 24 * i)) = true) = 0 from if_neg (fun h => h (decide_eq_true z)), Int.zero_mul]
      · rw [if_neg z, show zi (¬ decide (3 ≤ N (2 + 24 * i)) = true) = 1 from if_pos (fun h => z (of_decide_eq_true h)), Int.one_mul]
        rfl
    rw [u1, u2, rEw] at q
    exact q
  have sS : sum2 T.2.1 (2 * (gr_lv N T.2.1).length) (fun i p => rS (gr_A N T.2.1) r (240 * i + p)) ≤ gI N T.2.1 + wI N T.2.1 := by
    have e : sum2 T.2.1 (2 * (gr_lv N T.2.1).length) (fun i p => rS (gr_A N T.2.1) r (240 * i + p)) = sum2 T.2.1 (2 * (gr_lv N T.2.1).length) (fun i p => if 3 ≤ N (2 + 24 * i) then 0 else rS (gr_A N T.2.1) r (240 * i + p)) + sum2 T.2.1 (2 * (gr_lv N T.2.1).length) (fun i p => if 3 ≤ N (2 + 24 * i) then rS (gr_A N T.2.1) r (240 * i + p) else 0) := by
      rw [← sum2_add]
      refine sum2_c (fun i p _ _ => ?_)
      by_cases z : 3 ≤ N (2 + 24 * i)
      · rw [if_pos z, if_pos z, Int.zero_add]
      · rw [if_neg z, if_neg z, Int.add_zero]
    rw [e, rSg]
    omega
  have eL : ∀ i p, i < T.2.1 → p < 2 * (gr_lv N T.2.1).length → rE (gr_A N T.2.1) r (240 * i + p) ≤ gI N T.2.1 + wI N T.2.1 := by
    intro i p hi hp
    have q := sum2_le1 (g := fun i p => rE (gr_A N T.2.1) r (240 * i + p)) (fun s q _ _ => (P1 (240 * s + q)).2.1) hi hp
    rw [← bal] at q
    have q2 : rE (gr_A N T.2.1) r (240 * i + p) ≤ _ := q
    omega
  have sL : ∀ i p, i < T.2.1 → p < 2 * (gr_lv N T.2.1).length → rS (gr_A N T.2.1) r (240 * i + p) ≤ gI N T.2.1 + wI N T.2.1 := by
    intro i p hi hp
    have q := sum2_le1 (g := fun i p => rS (gr_A N T.2.1) r (240 * i + p)) (fun s q _ _ => (P1 (240 * s + q)).1) hi hp
    have q2 : rS (gr_A N T.2.1) r (240 * i + p) ≤ _ := q
    omega
  obtain ⟨r1, o1, d1, c1⟩ := cls_back t P0 (fun i p hi hp => by
    have q := cp i p hi hp
    have h := hc_hr t (pz_w T) hi hp
    have e1 := eL i p hi hp
    have s1 := sL i p hi hp
    by_cases z : 3 ≤ N (2 + 24 * i)
    · rcases h.2 z with ⟨h1, h2⟩ | ⟨h1, h2⟩
      · rw [h1, w1.1]
        exact ⟨fun _ => s1, fun _ => e1⟩
      · rw [h1]
        rw [h2] at q
        exact q
    · rw [h.1 z]
      exact q) (fun c => by
    refine Int.le_trans (fK_le (r0_of ok) c) ?_
    rw [← tot1]
    exact sS) (fun j i p hj hi hp hn => by
    have q := fs_le1 (g := fun j => fX (hotB N) (gr_A N T.2.1).length (rO r) (aT (gr_A N T.2.1)) (aY (gr_A N T.2.1)) j (240 * i + p)) T.2.1 (fun e _ => P2 e _) j hj
    rw [P3 i p hi hp hn] at q
    exact Int.le_trans q (eL i p hi hp)) fu bal bs
  refine ⟨r1, o1, d1, ?_⟩
  rw [c1, ref_cost t]
  exact (cost_rel t P7 fu).symm
end
