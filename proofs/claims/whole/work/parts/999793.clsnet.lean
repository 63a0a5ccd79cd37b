/-! the works' network is one, and its flows give plans -/
section
variable {N : Nat → Int32} {T : tv} {r : Nat → Int} {D : Int}
theorem cls_wf (t : tls T N) : pr_wf (pz_A T) := by
  have hl := cls_len t
  refine ⟨by omega, fun e he => ?_⟩
  have q := cls_all t (getD_mem he)
  exact ⟨by omega, by omega, by omega, by omega, by omega⟩
theorem cls_D0 (t : tls T N) (dv : fl_div (pz_A T).length (pT (pz_A T)) (pY (pz_A T)) r 0 1 D) : fl_sum (fun e => r (2 * e + 1) * zi (((pz_A T).getD e gd).1 = 0)) (pz_A T).length = D ∧ fl_sum (fun e => r (2 * e + 1) * zi (((pz_A T).getD e gd).2.1 = 1)) (pz_A T).length = D := by
  constructor
  · have q := (wt_div (pz_A T) r (fun v => zi (v = 0))).symm.trans (dv (fun v => zi (v = 0)))
    have e : fl_wt (pz_A T).length (fun e => zi (((pz_A T).getD e gd).2.1 = 0) - zi (((pz_A T).getD e gd).1 = 0)) r = fl_sum (fun e => (-1) * (r (2 * e + 1) * zi (((pz_A T).getD e gd).1 = 0))) (pz_A T).length := by
      refine fl_sum_congr _ (fun e he => ?_)
      have a := cls_all t (getD_mem he)
      show r (2 * e + 1) * (zi (((pz_A T).getD e gd).2.1 = 0) - zi (((pz_A T).getD e gd).1 = 0)) = _
      rw [show zi (((pz_A T).getD e gd).2.1 = 0) = 0 from if_neg a.2.2.2.2.1]
      grind
    rw [fl_sum_mul] at e
    have q2 := e.symm.trans q
    rw [show zi (1 = 0) = 0 from rfl, show zi (0 = 0) = 1 from rfl] at q2
    omega
  · have q := (wt_div (pz_A T) r (fun v => zi (v = 1))).symm.trans (dv (fun v => zi (v = 1)))
    have e : fl_wt (pz_A T).length (fun e => zi (((pz_A T).getD e gd).2.1 = 1) - zi (((pz_A T).getD e gd).1 = 1)) r = fl_sum (fun e => r (2 * e + 1) * zi (((pz_A T).getD e gd).2.1 = 1)) (pz_A T).length := by
      refine fl_sum_congr _ (fun e he => ?_)
      have a := cls_all t (getD_mem he)
      show r (2 * e + 1) * (zi (((pz_A T).getD e gd).2.1 = 1) - zi (((pz_A T).getD e gd).1 = 1)) = _
      rw [show zi (((pz_A T).getD e gd).1 = 1) = 0 from if_neg a.2.2.2.2.2, Int.sub_zero]
    have q2 := e.symm.trans q
    rw [show zi (1 = 1) = 1 from rfl, show zi (0 = 1) = 0 from rfl] at q2
    omega
theorem cls_caps0 (t : tls T N) : fl_sum (fun e => pcap (pz_A T) e * zi (((pz_A T).getD e gd).1 = 0)) (pz_A T).length = gI N T.2.1 + wI N T.2.1 ∧ fl_sum (fun e => pcap (pz_A T) e * zi (((pz_A T).getD e gd).2.1 = 1)) (pz_A T).length = gI N T.2.1 + wI N T.2.1 := ⟨(fs_ls (fun a => a.2.2.1.toInt * zi (a.1 = 0)) (pz_A T)).trans (cls_T0 t), (fs_ls (fun a => a.2.2.1.toInt * zi (a.2.1 = 1)) (pz_A T)).trans (cls_Y1 t)⟩
theorem cls_nq (t : tls T N) : nq_net (pz_A T) (pz_Z T).1 (gI N T.2.1 + wI N T.2.1) := by
  have hl := cls_len t
  have w1 := w_i t
  have pc : ∀ e, e < (pz_A T).length → pC (pz_A T) (2 * e) = ((pz_A T).getD e gd).2.2.2.toInt ∧ pC (pz_A T) (2 * e + 1) = -((pz_A T).getD e gd).2.2.2.toInt := by
    intro e he
    have q := hv_get (pz_A T) e he
    have a := cls_all t (getD_mem he)
    constructor
    · show ((hv (pz_A T)).getD (2 * e) hd).2.2.toInt = _
      rw [q.1]
    · show ((hv (pz_A T)).getD (2 * e + 1) hd).2.2.toInt = _
      rw [q.2]
      exact rf_neg (by omega)
  refine ⟨⟨by rw [hv_len]; omega, by omega, fun i hi => ?_⟩, by omega, hl.2.2, pr_pair (cls_wf t), fun e he => ?_, fun i hi => ?_, by omega, fun r D ok dv => ?_⟩
  · rw [hv_len] at hi
    obtain ⟨e, he, h⟩ := pr_half hi
    have q := hv_get (pz_A T) e he
    have a := cls_all t (getD_mem he)
    have p := pc e he
    rcases h with rfl | rfl
    · have p1 : ((hv (pz_A T)).getD (2 * e) hd).2.2.toInt = ((pz_A T).getD e gd).2.2.2.toInt := p.1
      rw [p1, q.1]
      exact ⟨a.1.1, a.1.2, by omega, by omega⟩
    · have p1 : ((hv (pz_A T)).getD (2 * e + 1) hd).2.2.toInt = -((pz_A T).getD e gd).2.2.2.toInt := p.2
      rw [p1, q.2]
      exact ⟨a.1.2, a.1.1, by omega, by omega⟩
  · have a := cls_all t (getD_mem he)
    have p := pc e he
    have ec : pcap (pz_A T) e = ((pz_A T).getD e gd).2.2.1.toInt := rfl
    rw [ec, p.1]
    omega
  · obtain ⟨e, he, h⟩ := pr_half hi
    have q := hv_get (pz_A T) e he
    have a := cls_all t (getD_mem he)
    have p := pc e he
    rcases h with rfl | rfl
    · rw [p.1]
      have e1 : pT (pz_A T) (2 * e) = ((pz_A T).getD e gd).1 := by
        show ((hv (pz_A T)).getD (2 * e) hd).1 = _
        rw [q.1]
      have e2 : pY (pz_A T) (2 * e) = ((pz_A T).getD e gd).2.1 := by
        show ((hv (pz_A T)).getD (2 * e) hd).2.1 = _
        rw [q.1]
      rw [e1, e2]
      rcases a.2.2.2.1 with z | z
      · exact Or.inl z
      · exact Or.inr ⟨z, by omega⟩
    · rw [p.2]
      exact Or.inl (by omega)
  · rw [← (cls_D0 t dv).1, ← (cls_caps0 t).1]
    exact cap_le ok (fun e _ => zi_nn _)
/-- a flow of all the heat fills every arc out of node 0 and into node 1 -/
theorem cls_full (t : tls T N) (ok : fl_ok (pz_A T).length (pcap (pz_A T)) r) (dv : fl_div (pz_A T).length (pT (pz_A T)) (pY (pz_A T)) r 0 1 (gI N T.2.1 + wI N T.2.1)) : ∀ e, e < (pz_A T).length → (((pz_A T).getD e gd).1 = 0 ∨ ((pz_A T).getD e gd).2.1 = 1) → r (2 * e) = 0 := by
  obtain ⟨d0, d1⟩ := cls_D0 t dv
  obtain ⟨c0, c1⟩ := cls_caps0 t
  have h0 : fl_sum (fun e => (pcap (pz_A T) e - r (2 * e + 1)) * zi (((pz_A T).getD e gd).1 = 0)) (pz_A T).length = 0 := by
    rw [fl_sum_congr (h := fun e => pcap (pz_A T) e * zi (((pz_A T).getD e gd).1 = 0) - r (2 * e + 1) * zi (((pz_A T).getD e gd).1 = 0)) _ (fun e _ => Int.sub_mul _ _ _), fl_sum_sub]
    omega
  have h1 : fl_sum (fun e => (pcap (pz_A T) e - r (2 * e + 1)) * zi (((pz_A T).getD e gd).2.1 = 1)) (pz_A T).length = 0 := by
    rw [fl_sum_congr (h := fun e => pcap (pz_A T) e * zi (((pz_A T).getD e gd).2.1 = 1) - r (2 * e + 1) * zi (((pz_A T).getD e gd).2.1 = 1)) _ (fun e _ => Int.sub_mul _ _ _), fl_sum_sub]
    omega
  intro e he h
  have o := ok e he
  rcases h with z | z
  · have q := fs_eq0 _ (fun e he => Int.mul_nonneg (by have := ok e he; omega) (zi_nn _)) h0 e he
    have q2 : (pcap (pz_A T) e - r (2 * e + 1)) * zi (((pz_A T).getD e gd).1 = 0) = 0 := q
    rw [show zi (((pz_A T).getD e gd).1 = 0) = 1 from if_pos z] at q2
    omega
  · have q := fs_eq0 _ (fun e he => Int.mul_nonneg (by have := ok e he; omega) (zi_nn _)) h1 e he
    have q2 : (pcap (pz_A T) e - r (2 * e + 1)) * zi (((pz_A T).getD e gd).2.1 = 1) = 0 := q
    rw [show zi (((pz_A T).getD e gd).2.1 = 1) = 1 from if_pos z] at q2
    omega
/-- an arc of the works, by place -/
theorem cls_cl (t : tls T N) {a : gA} (h : a ∈ pz_A T) : ty_ok (hotB N) (gr_may N) T.2.1 (2 * (gr_lv N T.2.1).length) (cdv (kCL N T) a.1) (cdv (kCL N T) a.2.1) ∧ ((∃ s p, s < T.2.1 ∧ p < 2 * (gr_lv N T.2.1).length ∧ hotB N s = true ∧ cdv (kCL N T) a.1 = 2880 ∧ cdv (kCL N T) a.2.1 = 240 * s + p ∧ a.2.2.1.toInt = hcl T (gr_lv N T.2.1) (pz_w T) (240 * s + p) ∧ a.2.2.2.toInt = cst N s ∧ (¬ 3 ≤ N (2 + 24 * s) → a.1 = 0)) ∨ (∃ s p, s < T.2.1 ∧ p < 2 * (gr_lv N T.2.1).length ∧ ¬ hotB N s = true ∧ cdv (kCL N T) a.2.1 = 2881 ∧ cdv (kCL N T) a.1 = 240 * s + p ∧ a.2.2.1.toInt = hcl T (gr_lv N T.2.1) (pz_w T) (240 * s + p) ∧ a.2.2.2.toInt = cst N s ∧ (¬ 3 ≤ N (2 + 24 * s) → a.2.1 = 1)) ∨ (((cdv (kCL N T) a.1 < 2880 ∧ cdv (kCL N T) a.2.1 < 2880) ∨ (2880 ≤ cdv (kCL N T) a.1 ∧ 2880 ≤ cdv (kCL N T) a.2.1)) ∧ a.2.2.2.toInt = 0)) := by
  rcases cls_mem t h with h | rfl | rfl | rfl
  · obtain ⟨-, ty, w⟩ := cls_in t h
    refine ⟨ty, ?_⟩
    rcases w with ⟨s, p, hs, hp, hh, e1, e2, e3, e4, e5⟩ | ⟨s, p, hs, hp, hh, e1, e2, e3, e4, e5⟩ | ⟨e1, e2, e5, e6, e3, e4⟩
    · refine Or.inl ⟨s, p, hs, hp, hh, ?_, e1, e4, e5, fun z => by rw [e3, if_neg z]⟩
      refine cdv_02 ?_
      rw [e3]
      split
      · exact Or.inr rfl
      · exact Or.inl rfl
    · refine Or.inr (Or.inl ⟨s, p, hs, hp, hh, ?_, e1, e4, e5, fun z => by rw [e3, if_neg z]⟩)
      refine cdv_13 ?_
      rw [e3]
      split
      · exact Or.inr rfl
      · exact Or.inl rfl
    · exact Or.inr (Or.inr ⟨Or.inl ⟨e5, e6⟩, e4⟩)
  · have c0 : cdv (kCL N T) 0 = 2880 := cdv_02 (Or.inl rfl)
    have c2 : cdv (kCL N T) 2 = 2880 := cdv_02 (Or.inr rfl)
    exact ⟨Or.inr (Or.inr (Or.inr (Or.inr ⟨by show 2880 ≤ cdv (kCL N T) 0; omega, by show 2880 ≤ cdv (kCL N T) 2; omega⟩))), Or.inr (Or.inr ⟨Or.inr ⟨by show 2880 ≤ cdv (kCL N T) 0; omega, by show 2880 ≤ cdv (kCL N T) 2; omega⟩, rfl⟩)⟩
  · have c0 : cdv (kCL N T) 2 = 2880 := cdv_02 (Or.inr rfl)
    have c2 : cdv (kCL N T) 3 = 2881 := cdv_13 (Or.inr rfl)
    exact ⟨Or.inr (Or.inr (Or.inr (Or.inr ⟨by show 2880 ≤ cdv (kCL N T) 2; omega, by show 2880 ≤ cdv (kCL N T) 3; omega⟩))), Or.inr (Or.inr ⟨Or.inr ⟨by show 2880 ≤ cdv (kCL N T) 2; omega, by show 2880 ≤ cdv (kCL N T) 3; omega⟩, rfl⟩)⟩
  · have c0 : cdv (kCL N T) 3 = 2881 := cdv_13 (Or.inr rfl)
    have c2 : cdv (kCL N T) 1 = 2881 := cdv_13 (Or.inl rfl)
    exact ⟨Or.inr (Or.inr (Or.inr (Or.inr ⟨by show 2880 ≤ cdv (kCL N T) 3; omega, by show 2880 ≤ cdv (kCL N T) 1; omega⟩))), Or.inr (Or.inr ⟨Or.inr ⟨by show 2880 ≤ cdv (kCL N T) 3; omega, by show 2880 ≤ cdv (kCL N T) 1; omega⟩, rfl⟩)⟩
def kT (N : Nat → Int32) (T : tv) (e : Nat) : Nat := cdv (kCL N T) ((pz_A T).getD e gd).1
def kY (N : Nat → Int32) (T : tv) (e : Nat) : Nat := cdv (kCL N T) ((pz_A T).getD e gd).2.1
def kS (N : Nat → Int32) (T : tv) (r : Nat → Int) : Nat → Int := fS (pz_A T).length (rO r) (kT N T) (kY N T)
def kE (N : Nat → Int32) (T : tv) (r : Nat → Int) : Nat → Int := fE (pz_A T).length (rO r) (kT N T) (kY N T)
theorem kty (t : tls T N) : ∀ e, e < (pz_A T).length → ty_ok (hotB N) (gr_may N) T.2.1 (2 * (gr_lv N T.2.1).length) (kT N T e) (kY N T e) := fun e he => (cls_cl t (getD_mem he)).1
theorem kcv (dv : fl_div (pz_A T).length (pT (pz_A T)) (pY (pz_A T)) r 0 1 D) : ∀ π : Nat → Int, π 2880 = 0 → π 2881 = 0 → (∀ v, 2880 ≤ v → π v = 0) → Ph (pz_A T).length (rO r) (kT N T) (kY N T) (fun a b => π b - π a) = 0 := by
  intro π h1 h2 _
  have q := (wt_div (pz_A T) r (fun v => π (cdv (kCL N T) v))).symm.trans (dv (fun v => π (cdv (kCL N T) v)))
  have e0 : π (cdv (kCL N T) 0) = 0 := by rw [cdv_02 (Or.inl rfl)]; exact h1
  have e1 : π (cdv (kCL N T) 1) = 0 := by rw [cdv_13 (Or.inl rfl)]; exact h2
  have q2 : fl_wt (pz_A T).length (fun e => π (cdv (kCL N T) ((pz_A T).getD e gd).2.1) - π (cdv (kCL N T) ((pz_A T).getD e gd).1)) r = D * (π (cdv (kCL N T) 1) - π (cdv (kCL N T) 0)) := q
  rw [e0, e1, Int.sub_zero, Int.mul_zero] at q2
  exact q2
theorem kcapS (t : tls T N) {i p : Nat} (hi : i < T.2.1) (hp : p < 2 * (gr_lv N T.2.1).length) (hh : hotB N i = true) : fl_sum (fun e => pcap (pz_A T) e * zi (kT N T e = 2880 ∧ kY N T e = 240 * i + p ∧ kY N T e < 2880)) (pz_A T).length = hcl T (gr_lv N T.2.1) (pz_w T) (240 * i + p) := by
  have hM := t.k.1
  have hL := gr_lv_len t
  refine (fs_ls (fun a => a.2.2.1.toInt * zi (cdv (kCL N T) a.1 = 2880 ∧ cdv (kCL N T) a.2.1 = 240 * i + p ∧ cdv (kCL N T) a.2.1 < 2880)) (pz_A T)).trans ?_
  rw [cls_ls t]
  have e1 : ls (fun a => a.2.2.1.toInt * zi (cdv (kCL N T) a.1 = 2880 ∧ cdv (kCL N T) a.2.1 = 240 * i + p ∧ cdv (kCL N T) a.2.1 < 2880)) (kIn N T) = ls (fun a => if a.1 < 4 then (if cdv (kCL N T) a.2.1 = 240 * i + p then hcl T (gr_lv N T.2.1) (pz_w T) (240 * i + p) else 0) else 0) (kIn N T) := by
    refine ls_c _ (fun a ha => ?_)
    obtain ⟨-, ty, w⟩ := cls_in t ha
    rcases w with ⟨s, q, hs, hq, hh, e1, e2, e3, e4, e5⟩ | ⟨s, q, hs, hq, hh, e1, e2, e3, e4, e5⟩ | ⟨e1, e2, e5, e6, e3, e4⟩
    · have a4 : a.1 < 4 := by
        rw [e3]
        split <;> decide
      have c1 : cdv (kCL N T) a.1 = 2880 := cdv_02 (by rw [e3]; split; exact Or.inr rfl; exact Or.inl rfl)
      rw [if_pos a4]
      by_cases z : cdv (kCL N T) a.2.1 = 240 * i + p
      · rw [if_pos z, show zi (cdv (kCL N T) a.1 = 2880 ∧ cdv (kCL N T) a.2.1 = 240 * i + p ∧ cdv (kCL N T) a.2.1 < 2880) = 1 from if_pos ⟨c1, z, by omega⟩, Int.mul_one, e4, ← e1, z]
      · rw [if_neg z, show zi (cdv (kCL N T) a.1 = 2880 ∧ cdv (kCL N T) a.2.1 = 240 * i + p ∧ cdv (kCL N T) a.2.1 < 2880) = 0 from if_neg (fun h => z h.2.1), Int.mul_zero]
    · rw [if_neg (show ¬ a.1 < 4 by omega), show zi (cdv (kCL N T) a.1 = 2880 ∧ cdv (kCL N T) a.2.1 = 240 * i + p ∧ cdv (kCL N T) a.2.1 < 2880) = 0 from if_neg (fun h => by omega), Int.mul_zero]
    · rw [if_neg (show ¬ a.1 < 4 by omega), show zi (cdv (kCL N T) a.1 = 2880 ∧ cdv (kCL N T) a.2.1 = 240 * i + p ∧ cdv (kCL N T) a.2.1 < 2880) = 0 from if_neg (fun h => by omega), Int.mul_zero]
  have e3 := cls_supS t (fun x => if x = 240 * i + p then hcl T (gr_lv N T.2.1) (pz_w T) (240 * i + p) else 0) (fun s q hs hq h0 => by
    show (if 240 * s + q = 240 * i + p then hcl T (gr_lv N T.2.1) (pz_w T) (240 * i + p) else 0) = 0
    by_cases z : 240 * s + q = 240 * i + p
    · rw [if_pos z, ← z]
      exact h0
    · rw [if_neg z])
  have e4 : sum2 T.2.1 (2 * (gr_lv N T.2.1).length) (fun s q => if hotB N s = true then (if 240 * s + q = 240 * i + p then hcl T (gr_lv N T.2.1) (pz_w T) (240 * i + p) else 0) else 0) = hcl T (gr_lv N T.2.1) (pz_w T) (240 * i + p) := by
    rw [sum2_c (h := fun s q => if s = i ∧ q = p then hcl T (gr_lv N T.2.1) (pz_w T) (240 * i + p) else 0) (fun s q hs hq => ?_), sum2_one hi hp]
    by_cases z : s = i ∧ q = p
    · rw [if_pos z, z.1, z.2, if_pos hh, if_pos rfl]
    · rw [if_neg z, if_neg (show ¬ 240 * s + q = 240 * i + p by omega), ite_self]
  rw [e1.trans (e3.trans e4)]
  have c2 : cdv (kCL N T) 2 = 2880 := cdv_02 (Or.inr rfl)
  have c3 : cdv (kCL N T) 3 = 2881 := cdv_13 (Or.inr rfl)
  have c1 : cdv (kCL N T) 1 = 2881 := cdv_13 (Or.inl rfl)
  show _ + _ * zi (cdv (kCL N T) 0 = 2880 ∧ cdv (kCL N T) 2 = 240 * i + p ∧ cdv (kCL N T) 2 < 2880) + _ * zi (cdv (kCL N T) 2 = 2880 ∧ cdv (kCL N T) 3 = 240 * i + p ∧ cdv (kCL N T) 3 < 2880) + _ * zi (cdv (kCL N T) 3 = 2880 ∧ cdv (kCL N T) 1 = 240 * i + p ∧ cdv (kCL N T) 1 < 2880) = _
  rw [show zi (cdv (kCL N T) 0 = 2880 ∧ cdv (kCL N T) 2 = 240 * i + p ∧ cdv (kCL N T) 2 < 2880) = 0 from if_neg (by omega), show zi (cdv (kCL N T) 2 = 2880 ∧ cdv (kCL N T) 3 = 240 * i + p ∧ cdv (kCL N T) 3 < 2880) = 0 from if_neg (by omega), show zi (cdv (kCL N T) 3 = 2880 ∧ cdv (kCL N T) 1 = 240 * i + p ∧ cdv (kCL N T) 1 < 2880) = 0 from if_neg (by omega), Int.mul_zero, Int.mul_zero]
  omega
theorem kcapE (t : tls T N) {i p : Nat} (hi : i < T.2.1) (hp : p < 2 * (gr_lv N T.2.1).length) (hh : ¬ hotB N i = true) : fl_sum (fun e => pcap (pz_A T) e * zi (kY N T e = 2881 ∧ kT N T e = 240 * i + p ∧ kT N T e < 2880)) (pz_A T).length = hcl T (gr_lv N T.2.1) (pz_w T) (240 * i + p) := by
  have hM := t.k.1
  have hL := gr_lv_len t
  refine (fs_ls (fun a => a.2.2.1.toInt * zi (cdv (kCL N T) a.2.1 = 2881 ∧ cdv (kCL N T) a.1 = 240 * i + p ∧ cdv (kCL N T) a.1 < 2880)) (pz_A T)).trans ?_
  rw [cls_ls t]
  have e1 : ls (fun a => a.2.2.1.toInt * zi (cdv (kCL N T) a.2.1 = 2881 ∧ cdv (kCL N T) a.1 = 240 * i + p ∧ cdv (kCL N T) a.1 < 2880)) (kIn N T) = ls (fun a => if a.2.1 < 4 then (if cdv (kCL N T) a.1 = 240 * i + p then hcl T (gr_lv N T.2.1) (pz_w T) (240 * i + p) else 0) else 0) (kIn N T) := by
    refine ls_c _ (fun a ha => ?_)
    obtain ⟨-, ty, w⟩ := cls_in t ha
    rcases w with ⟨s, q, hs, hq, hh, e1, e2, e3, e4, e5⟩ | ⟨s, q, hs, hq, hh, e1, e2, e3, e4, e5⟩ | ⟨e1, e2, e5, e6, e3, e4⟩
    · rw [if_neg (show ¬ a.2.1 < 4 by omega), show zi (cdv (kCL N T) a.2.1 = 2881 ∧ cdv (kCL N T) a.1 = 240 * i + p ∧ cdv (kCL N T) a.1 < 2880) = 0 from if_neg (fun h => by omega), Int.mul_zero]
    · have a4 : a.2.1 < 4 := by
        rw [e3]
        split <;> decide
      have c1 : cdv (kCL N T) a.2.1 = 2881 := cdv_13 (by rw [e3]; split; exact Or.inr rfl; exact Or.inl rfl)
      rw [if_pos a4]
      by_cases z : cdv (kCL N T) a.1 = 240 * i + p
      · rw [if_pos z, show zi (cdv (kCL N T) a.2.1 = 2881 ∧ cdv (kCL N T) a.1 = 240 * i + p ∧ cdv (kCL N T) a.1 < 2880) = 1 from if_pos ⟨c1, z, by omega⟩, Int.mul_one, e4, ← e1, z]
      · rw [if_neg z, show zi (cdv (kCL N T) a.2.1 = 2881 ∧ cdv (kCL N T) a.1 = 240 * i + p ∧ cdv (kCL N T) a.1 < 2880) = 0 from if_neg (fun h => z h.2.1), Int.mul_zero]
    · rw [if_neg (show ¬ a.2.1 < 4 by omega), show zi (cdv (kCL N T) a.2.1 = 2881 ∧ cdv (kCL N T) a.1 = 240 * i + p ∧ cdv (kCL N T) a.1 < 2880) = 0 from if_neg (fun h => by omega), Int.mul_zero]
  have e3 := cls_demS t (fun x => if x = 240 * i + p then hcl T (gr_lv N T.2.1) (pz_w T) (240 * i + p) else 0) (fun s q hs hq h0 => by
    show (if 240 * s + q = 240 * i + p then hcl T (gr_lv N T.2.1) (pz_w T) (240 * i + p) else 0) = 0
    by_cases z : 240 * s + q = 240 * i + p
    · rw [if_pos z, ← z]
      exact h0
    · rw [if_neg z])
  have e4 : sum2 T.2.1 (2 * (gr_lv N T.2.1).length) (fun s q => if hotB N s = true then 0 else (if 240 * s + q = 240 * i + p then hcl T (gr_lv N T.2.1) (pz_w T) (240 * i + p) else 0)) = hcl T (gr_lv N T.2.1) (pz_w T) (240 * i + p) := by
    rw [sum2_c (h := fun s q => if s = i ∧ q = p then hcl T (gr_lv N T.2.1) (pz_w T) (240 * i + p) else 0) (fun s q hs hq => ?_), sum2_one hi hp]
    by_cases z : s = i ∧ q = p
    · rw [if_pos z, z.1, z.2, if_neg hh, if_pos rfl]
    · rw [if_neg z, if_neg (show ¬ 240 * s + q = 240 * i + p by omega), ite_self]
  rw [e1.trans (e3.trans e4)]
  have c0 : cdv (kCL N T) 0 = 2880 := cdv_02 (Or.inl rfl)
  have c2 : cdv (kCL N T) 2 = 2880 := cdv_02 (Or.inr rfl)
  have c3 : cdv (kCL N T) 3 = 2881 := cdv_13 (Or.inr rfl)
  show _ + _ * zi (cdv (kCL N T) 2 = 2881 ∧ cdv (kCL N T) 0 = 240 * i + p ∧ cdv (kCL N T) 0 < 2880) + _ * zi (cdv (kCL N T) 3 = 2881 ∧ cdv (kCL N T) 2 = 240 * i + p ∧ cdv (kCL N T) 2 < 2880) + _ * zi (cdv (kCL N T) 1 = 2881 ∧ cdv (kCL N T) 3 = 240 * i + p ∧ cdv (kCL N T) 3 < 2880) = _
  rw [show zi (cdv (kCL N T) 2 = 2881 ∧ cdv (kCL N T) 0 = 240 * i + p ∧ cdv (kCL N T) 0 < 2880) = 0 from if_neg (by omega), show zi (cdv (kCL N T) 3 = 2881 ∧ cdv (kCL N T) 2 = 240 * i + p ∧ cdv (kCL N T) 2 < 2880) = 0 from if_neg (by omega), show zi (cdv (kCL N T) 1 = 2881 ∧ cdv (kCL N T) 3 = 240 * i + p ∧ cdv (kCL N T) 3 < 2880) = 0 from if_neg (by omega), Int.mul_zero, Int.mul_zero]
  omega
theorem k_caps (t : tls T N) (ok : fl_ok (pz_A T).length (pcap (pz_A T)) r) {i p : Nat} (hi : i < T.2.1) (hp : p < 2 * (gr_lv N T.2.1).length) : (hotB N i = true → kS N T r (240 * i + p) ≤ hcl T (gr_lv N T.2.1) (pz_w T) (240 * i + p)) ∧ (¬ hotB N i = true → kE N T r (240 * i + p) ≤ hcl T (gr_lv N T.2.1) (pz_w T) (240 * i + p)) := by
  constructor
  · intro hh
    rw [← kcapS t hi hp hh]
    exact cap_le ok (fun e _ => zi_nn _)
  · intro hh
    rw [← kcapE t hi hp hh]
    exact cap_le ok (fun e _ => zi_nn _)
theorem k_capf (t : tls T N) (ok : fl_ok (pz_A T).length (pcap (pz_A T)) r) (dv : fl_div (pz_A T).length (pT (pz_A T)) (pY (pz_A T)) r 0 1 (gI N T.2.1 + wI N T.2.1)) {i p : Nat} (hi : i < T.2.1) (hp : p < 2 * (gr_lv N T.2.1).length) (h3 : ¬ 3 ≤ N (2 + 24 * i)) : (hotB N i = true → kS N T r (240 * i + p) = hcl T (gr_lv N T.2.1) (pz_w T) (240 * i + p)) ∧ (¬ hotB N i = true → kE N T r (240 * i + p) = hcl T (gr_lv N T.2.1) (pz_w T) (240 * i + p)) := by
  have hL := gr_lv_len t
  have full := cls_full t ok dv
  constructor
  · intro hh
    rw [← kcapS t hi hp hh]
    refine cap_eq ok (fun e he => ?_)
    by_cases z : kT N T e = 2880 ∧ kY N T e = 240 * i + p ∧ kY N T e < 2880
    · right
      obtain ⟨z1, z2, z3⟩ := z
      unfold kT at z1
      unfold kY at z2 z3
      refine full e he (Or.inl ?_)
      obtain ⟨-, w⟩ := cls_cl t (getD_mem he)
      rcases w with ⟨s, q, hs, hq, -, e1, e2, -, -, e5⟩ | ⟨s, q, hs, hq, -, e1, e2, -⟩ | ⟨w, -⟩
      · refine e5 ?_
        rw [show s = i by omega]
        exact h3
      · omega
      · omega
    · exact Or.inl (if_neg z)
  · intro hh
    rw [← kcapE t hi hp hh]
    refine cap_eq ok (fun e he => ?_)
    by_cases z : kY N T e = 2881 ∧ kT N T e = 240 * i + p ∧ kT N T e < 2880
    · right
      obtain ⟨z1, z2, z3⟩ := z
      unfold kY at z1
      unfold kT at z2 z3
      refine full e he (Or.inr ?_)
      obtain ⟨-, w⟩ := cls_cl t (getD_mem he)
      rcases w with ⟨s, q, hs, hq, -, e1, e2, -⟩ | ⟨s, q, hs, hq, -, e1, e2, -, -, e5⟩ | ⟨w, -⟩
      · omega
      · refine e5 ?_
        rw [show s = i by omega]
        exact h3
      · omega
    · exact Or.inl (if_neg z)
theorem k_cost (t : tls T N) : fl_cost (pz_A T).length (pC (pz_A T)) r = sum2 T.2.1 (2 * (gr_lv N T.2.1).length) (fun i p => cst N ((240 * i + p) / 240) * kS N T r (240 * i + p)) + sum2 T.2.1 (2 * (gr_lv N T.2.1).length) (fun i p => cst N ((240 * i + p) / 240) * kE N T r (240 * i + p)) := by
  have hM := t.k.1
  have hL := gr_lv_len t
  have s1 := PhS (r := rO r) hM (show 2 * (gr_lv N T.2.1).length ≤ 240 by omega) (kty t) (fun c => cst N (c / 240))
  have s2 := PhE (r := rO r) hM (show 2 * (gr_lv N T.2.1).length ≤ 240 by omega) (kty t) (fun c => cst N (c / 240))
  have s1' : sum2 T.2.1 (2 * (gr_lv N T.2.1).length) (fun i p => cst N ((240 * i + p) / 240) * kS N T r (240 * i + p)) = _ := s1
  have s2' : sum2 T.2.1 (2 * (gr_lv N T.2.1).length) (fun i p => cst N ((240 * i + p) / 240) * kE N T r (240 * i + p)) = _ := s2
  rw [wt_cost, s1', s2', ← Ph_add]
  refine fl_sum_congr _ (fun e he => ?_)
  obtain ⟨-, w⟩ := cls_cl t (getD_mem he)
  show r (2 * e + 1) * ((pz_A T).getD e gd).2.2.2.toInt = r (2 * e + 1) * ((if cdv (kCL N T) ((pz_A T).getD e gd).1 = 2880 ∧ cdv (kCL N T) ((pz_A T).getD e gd).2.1 < 2880 then cst N (cdv (kCL N T) ((pz_A T).getD e gd).2.1 / 240) else 0) + (if cdv (kCL N T) ((pz_A T).getD e gd).2.1 = 2881 ∧ cdv (kCL N T) ((pz_A T).getD e gd).1 < 2880 then cst N (cdv (kCL N T) ((pz_A T).getD e gd).1 / 240) else 0))
  generalize (pz_A T).getD e gd = a at *
  rcases w with ⟨s, q, hs, hq, -, e1, e2, e3, e4, e5⟩ | ⟨s, q, hs, hq, -, e1, e2, e3, e4, e5⟩ | ⟨w, e4⟩
  · rw [if_pos (show cdv (kCL N T) a.1 = 2880 ∧ cdv (kCL N T) a.2.1 < 2880 by omega), if_neg (show ¬ (cdv (kCL N T) a.2.1 = 2881 ∧ cdv (kCL N T) a.1 < 2880) by omega), Int.add_zero, e4, e2, show (240 * s + q) / 240 = s by omega]
  · rw [if_neg (show ¬ (cdv (kCL N T) a.1 = 2880 ∧ cdv (kCL N T) a.2.1 < 2880) by omega), if_pos (show cdv (kCL N T) a.2.1 = 2881 ∧ cdv (kCL N T) a.1 < 2880 by omega), Int.zero_add, e4, e2, show (240 * s + q) / 240 = s by omega]
  · rw [if_neg (show ¬ (cdv (kCL N T) a.1 = 2880 ∧ cdv (kCL N T) a.2.1 < 2880) by omega), if_neg (show ¬ (cdv (kCL N T) a.2.1 = 2881 ∧ cdv (kCL N T) a.1 < 2880) by omega), e4]
    rfl
end
