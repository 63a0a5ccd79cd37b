/-! the works' flow of a plan -/
section
variable {N : Nat → Int32} {T : tv}
def fA (N : Nat → Int32) (T : tv) (S E K : Nat → Int) (X : Nat → Nat → Int) (b : Int) (a : gA) : Int := if a.1 < 4 ∧ a.2.1 < 4 then (if a.1 = 0 then wI N T.2.1 else if a.1 = 2 then wI N T.2.1 - b else gI N T.2.1) else f1 N (kCL N T) S E K X a
theorem cls_back (t : tls T N) {S E K : Nat → Int} {X : Nat → Nat → Int} (P : pn (hotB N) (gr_may N) T.2.1 (2 * (gr_lv N T.2.1).length) S E K X) (cp : ∀ i p, i < T.2.1 → p < 2 * (gr_lv N T.2.1).length → (hotB N i = true → S (240 * i + p) ≤ hcl T (gr_lv N T.2.1) (pz_w T) (240 * i + p)) ∧ (¬ hotB N i = true → E (240 * i + p) ≤ hcl T (gr_lv N T.2.1) (pz_w T) (240 * i + p))) (kx : ∀ c, K c ≤ gI N T.2.1 + wI N T.2.1) (xx : ∀ j i p, j < T.2.1 → i < T.2.1 → p < 2 * (gr_lv N T.2.1).length → ¬ hotB N i = true → X j (240 * i + p) ≤ gI N T.2.1 + wI N T.2.1) (fu : ∀ i p, i < T.2.1 → p < 2 * (gr_lv N T.2.1).length → ¬ 3 ≤ N (2 + 24 * i) → (hotB N i = true → S (240 * i + p) = hr N (gr_lv N T.2.1) (240 * i + p)) ∧ (¬ hotB N i = true → E (240 * i + p) = hr N (gr_lv N T.2.1) (240 * i + p))) (bal : sum2 T.2.1 (2 * (gr_lv N T.2.1).length) (fun i p => S (240 * i + p)) = sum2 T.2.1 (2 * (gr_lv N T.2.1).length) (fun i p => E (240 * i + p))) (bs : sum2 T.2.1 (2 * (gr_lv N T.2.1).length) (fun i p => if 3 ≤ N (2 + 24 * i) then S (240 * i + p) else 0) ≤ wI N T.2.1) : ∃ r, fl_ok (pz_A T).length (pcap (pz_A T)) r ∧ fl_div (pz_A T).length (pT (pz_A T)) (pY (pz_A T)) r 0 1 (gI N T.2.1 + wI N T.2.1) ∧ fl_cost (pz_A T).length (pC (pz_A T)) r = sum2 T.2.1 (2 * (gr_lv N T.2.1).length) (fun i p => cst N ((240 * i + p) / 240) * S (240 * i + p)) + sum2 T.2.1 (2 * (gr_lv N T.2.1).length) (fun i p => cst N ((240 * i + p) / 240) * E (240 * i + p)) := by
  have hM := t.k.1
  have hL := gr_lv_len t
  have P0 := P
  obtain ⟨P1, P2, P3, P4, P5, P6, P7⟩ := P
  obtain ⟨x1, x2, x3, x4, x5⟩ := aux_i t
  have w1 := w_i t
  have h0 : ∀ s p, s < T.2.1 → p < 2 * (gr_lv N T.2.1).length → hcl T (gr_lv N T.2.1) (pz_w T) (240 * s + p) = 0 → S (240 * s + p) = 0 ∧ E (240 * s + p) = 0 := by
    intro s p hs hp z
    have q := cp s p hs hp
    have p1 := P1 (240 * s + p)
    have p7 := P7 s p hs hp
    by_cases y : hotB N s = true
    · have := q.1 y
      exact ⟨by omega, p7.1 y⟩
    · have := q.2 y
      exact ⟨p7.2 y, by omega⟩
  obtain ⟨b, eb⟩ : ∃ b, b = sum2 T.2.1 (2 * (gr_lv N T.2.1).length) (fun i p => if 3 ≤ N (2 + 24 * i) then S (240 * i + p) else 0) := ⟨_, rfl⟩
  obtain ⟨bE, ebE⟩ : ∃ bE, bE = sum2 T.2.1 (2 * (gr_lv N T.2.1).length) (fun i p => if 3 ≤ N (2 + 24 * i) then E (240 * i + p) else 0) := ⟨_, rfl⟩
  have b0 : 0 ≤ b := by
    rw [eb]
    refine sum2_nn (fun s p _ _ => ?_)
    split
    · exact (P1 _).1
    · exact Int.le_refl _
  rw [← eb] at bs
  have rS : sum2 T.2.1 (2 * (gr_lv N T.2.1).length) (fun i p => if 3 ≤ N (2 + 24 * i) then 0 else S (240 * i + p)) = gI N T.2.1 := by
    rw [← (real_g t).1]
    refine sum2_c (fun i p hi hp => ?_)
    by_cases z : 3 ≤ N (2 + 24 * i)
    · rw [if_pos z, if_pos z, ite_self]
    · rw [if_neg z, if_neg z]
      by_cases y : hotB N i = true
      · rw [if_pos y]
        exact (fu i p hi hp z).1 y
      · rw [if_neg y]
        exact (P7 i p hi hp).2 y
  have rE : sum2 T.2.1 (2 * (gr_lv N T.2.1).length) (fun i p => if 3 ≤ N (2 + 24 * i) then 0 else E (240 * i + p)) = wI N T.2.1 := by
    rw [← (real_g t).2]
    refine sum2_c (fun i p hi hp => ?_)
    by_cases z : 3 ≤ N (2 + 24 * i)
    · rw [if_pos z, if_pos z, ite_self]
    · rw [if_neg z, if_neg z]
      by_cases y : hotB N i = true
      · rw [if_pos y]
        exact (P7 i p hi hp).1 y
      · rw [if_neg y]
        exact (fu i p hi hp z).2 y
  have sS : sum2 T.2.1 (2 * (gr_lv N T.2.1).length) (fun i p => S (240 * i + p)) = gI N T.2.1 + b := by
    rw [← rS, eb, ← sum2_add]
    refine sum2_c (fun i p _ _ => ?_)
    by_cases z : 3 ≤ N (2 + 24 * i)
    · rw [if_pos z, if_pos z, Int.zero_add]
    · rw [if_neg z, if_neg z, Int.add_zero]
  have sE : sum2 T.2.1 (2 * (gr_lv N T.2.1).length) (fun i p => E (240 * i + p)) = wI N T.2.1 + bE := by
    rw [← rE, ebE, ← sum2_add]
    refine sum2_c (fun i p _ _ => ?_)
    by_cases z : 3 ≤ N (2 + 24 * i)
    · rw [if_pos z, if_pos z, Int.zero_add]
    · rw [if_neg z, if_neg z, Int.add_zero]
  have fin : ∀ a, a ∈ kIn N T → fA N T S E K X b a = f1 N (kCL N T) S E K X a := by
    intro a ha
    obtain ⟨-, -, w⟩ := cls_in t ha
    refine if_neg (fun z => ?_)
    rcases w with ⟨s, p, hs, hp, hh, e1, e2, e3, e4, e5⟩ | ⟨s, p, hs, hp, hh, e1, e2, e3, e4, e5⟩ | ⟨e1, e2, -, -, e3, e4⟩ <;> omega
  have fv : ∀ a, a ∈ kIn N T → (a.1 < 4 → f1 N (kCL N T) S E K X a = S (cdv (kCL N T) a.2.1)) ∧ (¬ a.1 < 4 → a.2.1 < 4 → f1 N (kCL N T) S E K X a = E (cdv (kCL N T) a.1)) := by
    intro a ha
    unfold f1
    exact ⟨fun z => if_pos z, fun z y => by rw [if_neg z, if_pos y]⟩
  refine ⟨rof (pz_A T) (fA N T S E K X b), rof_ok (fun a ha => ?_), fun p => ?_, ?_⟩
  · rcases cls_mem t ha with ha | rfl | rfl | rfl
    · rw [fin a ha]
      obtain ⟨-, ty, w⟩ := cls_in t ha
      rcases w with ⟨s, p, hs, hp, hh, e1, e2, e3, e4, e5⟩ | ⟨s, p, hs, hp, hh, e1, e2, e3, e4, e5⟩ | ⟨e1, e2, e5, e6, e3, e4⟩
      · rw [(fv a ha).1 (by rw [e3]; split <;> decide), e1, e4]
        exact ⟨(P1 _).1, (cp s p hs hp).1 hh⟩
      · rw [(fv a ha).2 (by omega) (by rw [e3]; split <;> decide), e1, e4]
        exact ⟨(P1 _).2.1, (cp s p hs hp).2 hh⟩
      · rw [e3, w1.1]
        unfold f1
        rw [if_neg (by omega), if_neg (by omega)]
        rcases ty with ⟨t1, -⟩ | ⟨-, t2, -⟩ | ⟨t1, t2, t3, t4, t5, t6, t7⟩ | ⟨t1, t2, t3, t4, t5, t6, t7, t8⟩ | ⟨t1, -⟩
        · omega
        · omega
        · rw [if_pos (by rw [← t4]; exact t3)]
          unfold kb
          split
          · omega
          · exact ⟨(P1 _).2.2, kx _⟩
        · rw [if_neg t4]
          refine ⟨P2 _ _, ?_⟩
          have q := xx (cdv (kCL N T) a.1 / 240) (cdv (kCL N T) a.2.1 / 240) (cdv (kCL N T) a.2.1 % 240) t6.1 t6.2 t8 t4
          rw [show 240 * (cdv (kCL N T) a.2.1 / 240) + cdv (kCL N T) a.2.1 % 240 = cdv (kCL N T) a.2.1 by omega] at q
          exact q
        · omega
    · show 0 ≤ wI N T.2.1 ∧ wI N T.2.1 ≤ ((pz_ws T T.2.1).toInt64).toInt
      omega
    · show 0 ≤ wI N T.2.1 - b ∧ wI N T.2.1 - b ≤ ((pz_ws T T.2.1).toInt64).toInt
      omega
    · show 0 ≤ gI N T.2.1 ∧ gI N T.2.1 ≤ ((pz_gs T T.2.1).toInt64).toInt
      omega
  · rw [wt_div, rof_wt (pz_A T) (fA N T S E K X b) (fun a => p a.2.1 - p a.1), cls_ls t]
    have cv := cls_cv (π := fun v => if v < 4 then 0 else p v) t (by omega) P0 h0 (fun v hv2 => if_pos hv2) (kCL N T) (List.prefix_refl _)
    have e1 : ls (fun a => fA N T S E K X b a * (p a.2.1 - p a.1)) (kIn N T) = ls (fun a => f1 N (kCL N T) S E K X a * ((if a.2.1 < 4 then 0 else p a.2.1) - (if a.1 < 4 then 0 else p a.1)) + ((if a.2.1 < 4 then (fun c => E c * (if 3 ≤ N (2 + 24 * (c / 240)) then p 3 else p 1)) (cdv (kCL N T) a.1) else 0) + (-1) * (if a.1 < 4 then (fun c => S c * (if 3 ≤ N (2 + 24 * (c / 240)) then p 2 else p 0)) (cdv (kCL N T) a.2.1) else 0))) (kIn N T) := by
      refine ls_c _ (fun a ha => ?_)
      show fA N T S E K X b a * (p a.2.1 - p a.1) = f1 N (kCL N T) S E K X a * ((if a.2.1 < 4 then 0 else p a.2.1) - (if a.1 < 4 then 0 else p a.1)) + ((if a.2.1 < 4 then E (cdv (kCL N T) a.1) * (if 3 ≤ N (2 + 24 * (cdv (kCL N T) a.1 / 240)) then p 3 else p 1) else 0) + (-1) * (if a.1 < 4 then S (cdv (kCL N T) a.2.1) * (if 3 ≤ N (2 + 24 * (cdv (kCL N T) a.2.1 / 240)) then p 2 else p 0) else 0))
      rw [fin a ha]
      obtain ⟨-, ty, w⟩ := cls_in t ha
      rcases w with ⟨s, q, hs, hq, hh, e1, e2, e3, e4, e5⟩ | ⟨s, q, hs, hq, hh, e1, e2, e3, e4, e5⟩ | ⟨e1, e2, e5, e6, e3, e4⟩
      · have a4 : a.1 < 4 := by
          rw [e3]
          split <;> decide
        have ep : (if 3 ≤ N (2 + 24 * (cdv (kCL N T) a.2.1 / 240)) then p 2 else p 0) = p a.1 := by
          rw [e1, code_d hq (by omega), e3]
          split <;> rfl
        rw [(fv a ha).1 a4, if_pos a4, if_pos a4, if_neg (show ¬ a.2.1 < 4 by omega), if_neg (show ¬ a.2.1 < 4 by omega), ep]
        grind
      · have a4 : a.2.1 < 4 := by
          rw [e3]
          split <;> decide
        have ep : (if 3 ≤ N (2 + 24 * (cdv (kCL N T) a.1 / 240)) then p 3 else p 1) = p a.2.1 := by
          rw [e1, code_d hq (by omega), e3]
          split <;> rfl
        rw [(fv a ha).2 (by omega) a4, if_pos a4, if_pos a4, if_neg (show ¬ a.1 < 4 by omega), if_neg (show ¬ a.1 < 4 by omega), ep]
        grind
      · rw [if_neg (show ¬ a.1 < 4 by omega), if_neg (show ¬ a.1 < 4 by omega), if_neg (show ¬ a.2.1 < 4 by omega), if_neg (show ¬ a.2.1 < 4 by omega)]
        omega
    have cv2 : ls (fun a => f1 N (kCL N T) S E K X a * ((if a.2.1 < 4 then 0 else p a.2.1) - (if a.1 < 4 then 0 else p a.1))) (kIn N T) = 0 := cv
    have g1 := cls_supS t (fun c => S c * (if 3 ≤ N (2 + 24 * (c / 240)) then p 2 else p 0)) (fun s q hs hq z => by
      show S (240 * s + q) * _ = 0
      rw [(h0 s q hs hq z).1, Int.zero_mul])
    have g2 := cls_demS t (fun c => E c * (if 3 ≤ N (2 + 24 * (c / 240)) then p 3 else p 1)) (fun s q hs hq z => by
      show E (240 * s + q) * _ = 0
      rw [(h0 s q hs hq z).2, Int.zero_mul])
    have v1 : sum2 T.2.1 (2 * (gr_lv N T.2.1).length) (fun i q => if hotB N i = true then S (240 * i + q) * (if 3 ≤ N (2 + 24 * ((240 * i + q) / 240)) then p 2 else p 0) else 0) = p 2 * b + p 0 * gI N T.2.1 := by
      rw [eb, ← rS, ← sum2_mul, ← sum2_mul, ← sum2_add]
      refine sum2_c (fun i q hi hq => ?_)
      rw [code_d hq (by omega)]
      by_cases y : hotB N i = true
      · rw [if_pos y]
        by_cases z : 3 ≤ N (2 + 24 * i)
        · rw [if_pos z, if_pos z, if_pos z]
          grind
        · rw [if_neg z, if_neg z, if_neg z]
          grind
      · rw [if_neg y, (P7 i q hi hq).2 y, ite_self]
        omega
    have v2 : sum2 T.2.1 (2 * (gr_lv N T.2.1).length) (fun i q => if hotB N i = true then 0 else E (240 * i + q) * (if 3 ≤ N (2 + 24 * ((240 * i + q) / 240)) then p 3 else p 1)) = p 3 * bE + p 1 * wI N T.2.1 := by
      rw [ebE, ← rE, ← sum2_mul, ← sum2_mul, ← sum2_add]
      refine sum2_c (fun i q hi hq => ?_)
      rw [code_d hq (by omega)]
      by_cases y : hotB N i = true
      · rw [if_pos y, (P7 i q hi hq).1 y, ite_self]
        omega
      · rw [if_neg y]
        by_cases z : 3 ≤ N (2 + 24 * i)
        · rw [if_pos z, if_pos z, if_pos z]
          grind
        · rw [if_neg z, if_neg z, if_neg z]
          grind
    have g1' := g1.trans v1
    have g2' := g2.trans v2
    rw [e1, ls_add, ls_add, ls_mul, cv2, g1', g2']
    show 0 + (p 3 * bE + p 1 * wI N T.2.1 + -1 * (p 2 * b + p 0 * gI N T.2.1)) + wI N T.2.1 * (p 2 - p 0) + (wI N T.2.1 - b) * (p 3 - p 2) + gI N T.2.1 * (p 1 - p 3) = (gI N T.2.1 + wI N T.2.1) * (p 1 - p 0)
    have bb : bE = gI N T.2.1 + b - wI N T.2.1 := by
      rw [sS, sE] at bal
      omega
    rw [bb]
    grind
  · rw [wt_cost, rof_wt (pz_A T) (fA N T S E K X b) (fun a => a.2.2.2.toInt), cls_ls t]
    have e1 : ls (fun a => fA N T S E K X b a * a.2.2.2.toInt) (kIn N T) = ls (fun a => (if a.1 < 4 then (fun c => cst N (c / 240) * S c) (cdv (kCL N T) a.2.1) else 0) + (if a.2.1 < 4 then (fun c => cst N (c / 240) * E c) (cdv (kCL N T) a.1) else 0)) (kIn N T) := by
      refine ls_c _ (fun a ha => ?_)
      show fA N T S E K X b a * a.2.2.2.toInt = (if a.1 < 4 then cst N (cdv (kCL N T) a.2.1 / 240) * S (cdv (kCL N T) a.2.1) else 0) + (if a.2.1 < 4 then cst N (cdv (kCL N T) a.1 / 240) * E (cdv (kCL N T) a.1) else 0)
      rw [fin a ha]
      obtain ⟨-, ty, w⟩ := cls_in t ha
      rcases w with ⟨s, q, hs, hq, hh, e1, e2, e3, e4, e5⟩ | ⟨s, q, hs, hq, hh, e1, e2, e3, e4, e5⟩ | ⟨e1, e2, e5, e6, e3, e4⟩
      · have a4 : a.1 < 4 := by
          rw [e3]
          split <;> decide
        rw [(fv a ha).1 a4, if_pos a4, if_neg (show ¬ a.2.1 < 4 by omega), Int.add_zero, e5, e1, code_d hq (by omega), Int.mul_comm]
      · have a4 : a.2.1 < 4 := by
          rw [e3]
          split <;> decide
        rw [(fv a ha).2 (by omega) a4, if_pos a4, if_neg (show ¬ a.1 < 4 by omega), Int.zero_add, e5, e1, code_d hq (by omega), Int.mul_comm]
      · rw [if_neg (show ¬ a.1 < 4 by omega), if_neg (show ¬ a.2.1 < 4 by omega), e4, Int.mul_zero]
        rfl
    have g1 := cls_supS t (fun c => cst N (c / 240) * S c) (fun s q hs hq z => by
      show cst N ((240 * s + q) / 240) * S (240 * s + q) = 0
      rw [(h0 s q hs hq z).1, Int.mul_zero])
    have g2 := cls_demS t (fun c => cst N (c / 240) * E c) (fun s q hs hq z => by
      show cst N ((240 * s + q) / 240) * E (240 * s + q) = 0
      rw [(h0 s q hs hq z).2, Int.mul_zero])
    have u1 : sum2 T.2.1 (2 * (gr_lv N T.2.1).length) (fun i q => if hotB N i = true then cst N ((240 * i + q) / 240) * S (240 * i + q) else 0) = sum2 T.2.1 (2 * (gr_lv N T.2.1).length) (fun i p => cst N ((240 * i + p) / 240) * S (240 * i + p)) := by
      refine sum2_c (fun i q hi hq => ?_)
      by_cases y : hotB N i = true
      · rw [if_pos y]
      · rw [if_neg y, (P7 i q hi hq).2 y, Int.mul_zero]
    have u2 : sum2 T.2.1 (2 * (gr_lv N T.2.1).length) (fun i q => if hotB N i = true then 0 else cst N ((240 * i + q) / 240) * E (240 * i + q)) = sum2 T.2.1 (2 * (gr_lv N T.2.1).length) (fun i p => cst N ((240 * i + p) / 240) * E (240 * i + p)) := by
      refine sum2_c (fun i q hi hq => ?_)
      by_cases y : hotB N i = true
      · rw [if_pos y, (P7 i q hi hq).1 y, Int.mul_zero]
      · rw [if_neg y]
    rw [e1, ls_add, g1.trans u1, g2.trans u2]
    show _ + wI N T.2.1 * (0 : Int) + (wI N T.2.1 - b) * (0 : Int) + gI N T.2.1 * (0 : Int) = _
    rw [Int.mul_zero, Int.mul_zero, Int.mul_zero]
    omega
end
