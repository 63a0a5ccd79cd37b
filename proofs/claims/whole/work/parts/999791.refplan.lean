/-! the reference's flows and plans -/
abbrev aT (A : List gA) (e : Nat) : Nat := (A.getD e gd).1
abbrev aY (A : List gA) (e : Nat) : Nat := (A.getD e gd).2.1
abbrev rO (r : Nat → Int) (e : Nat) : Int := r (2 * e + 1)
theorem r0_of {m : Nat} {cap r : Nat → Int} (ok : fl_ok m cap r) : ∀ e, e < m → 0 ≤ rO r e := fun e he => (ok e he).2.1
theorem cap_le {m : Nat} {cap r : Nat → Int} (ok : fl_ok m cap r) {χ : Nat → Int} (h : ∀ e, e < m → 0 ≤ χ e) : fl_sum (fun e => r (2 * e + 1) * χ e) m ≤ fl_sum (fun e => cap e * χ e) m := fl_sum_le m (fun e he => Int.mul_le_mul_of_nonneg_right (by have := ok e he; omega) (h e he))
theorem cap_eq {m : Nat} {cap r : Nat → Int} (ok : fl_ok m cap r) {χ : Nat → Int} (h : ∀ e, e < m → χ e = 0 ∨ r (2 * e) = 0) : fl_sum (fun e => r (2 * e + 1) * χ e) m = fl_sum (fun e => cap e * χ e) m := by
  refine fl_sum_congr m (fun e he => ?_)
  have q := ok e he
  rcases h e he with z | z
  · rw [z, Int.mul_zero, Int.mul_zero]
  · rw [show r (2 * e + 1) = cap e by omega]
theorem zi_nn (P : Prop) [Decidable P] : 0 ≤ zi P := by
  unfold zi
  split <;> decide
section
variable {N : Nat → Int32} {T : tv} {r : Nat → Int} {D : Int}
theorem ref_ty (t : tls T N) : ∀ e, e < (gr_A N T.2.1).length → ty_ok (hotB N) (gr_may N) T.2.1 (2 * (gr_lv N T.2.1).length) (aT (gr_A N T.2.1) e) (aY (gr_A N T.2.1) e) := fun e he => (ref_arc t (getD_mem he)).1
theorem ref_cv0 (A : List gA) (dv : fl_div A.length (pT A) (pY A) r 2880 2881 D) : ∀ π : Nat → Int, π 2880 = 0 → π 2881 = 0 → (∀ v, 2880 ≤ v → π v = 0) → Ph A.length (rO r) (aT A) (aY A) (fun a b => π b - π a) = 0 := by
  intro π h1 h2 _
  have q := dv π
  rw [wt_div, h1, h2, Int.sub_zero, Int.mul_zero] at q
  exact q
def rS (A : List gA) (r : Nat → Int) : Nat → Int := fS A.length (rO r) (aT A) (aY A)
def rE (A : List gA) (r : Nat → Int) : Nat → Int := fE A.length (rO r) (aT A) (aY A)
def c2i (N : Nat → Int32) (i : Nat) : Int := (gr_cost N i).toInt
theorem ref_capS (t : tls T N) {i p : Nat} (hi : i < T.2.1) (hp : p < 2 * (gr_lv N T.2.1).length) (hh : hotB N i = true) : fl_sum (fun e => pcap (gr_A N T.2.1) e * zi (aT (gr_A N T.2.1) e = 2880 ∧ aY (gr_A N T.2.1) e = 240 * i + p ∧ aY (gr_A N T.2.1) e < 2880)) (gr_A N T.2.1).length = hr N (gr_lv N T.2.1) (240 * i + p) := by
  have hM := t.k.1
  have hL := gr_lv_len t
  have e1 := fs_ls (fun a => a.2.2.1.toInt * zi (a.1 = 2880 ∧ a.2.1 = 240 * i + p ∧ a.2.1 < 2880)) (gr_A N T.2.1)
  refine e1.trans ?_
  have e2 : ls (fun a => a.2.2.1.toInt * zi (a.1 = 2880 ∧ a.2.1 = 240 * i + p ∧ a.2.1 < 2880)) (gr_A N T.2.1) = ls (fun a => if a.1 = 2880 then (if a.2.1 = 240 * i + p then hr N (gr_lv N T.2.1) (240 * i + p) else 0) else 0) (gr_A N T.2.1) := by
    refine ls_c _ (fun a ha => ?_)
    obtain ⟨-, w⟩ := ref_arc t ha
    by_cases z : a.1 = 2880
    · rw [if_pos z]
      by_cases y : a.2.1 = 240 * i + p
      · rw [if_pos y, show zi (a.1 = 2880 ∧ a.2.1 = 240 * i + p ∧ a.2.1 < 2880) = 1 from if_pos ⟨z, y, by omega⟩, Int.mul_one]
        rcases w with ⟨-, -, q3, -⟩ | ⟨q1, -⟩ | ⟨q1, -⟩
        · rw [q3, y]
        · omega
        · omega
      · rw [if_neg y, show zi (a.1 = 2880 ∧ a.2.1 = 240 * i + p ∧ a.2.1 < 2880) = 0 from if_neg (fun h => y h.2.1), Int.mul_zero]
    · rw [if_neg z, show zi (a.1 = 2880 ∧ a.2.1 = 240 * i + p ∧ a.2.1 < 2880) = 0 from if_neg (fun h => z h.1), Int.mul_zero]
  rw [e2]
  have e3 := ref_sup (L := gr_lv N T.2.1) t.k (by omega) (fun x => if x = 240 * i + p then hr N (gr_lv N T.2.1) (240 * i + p) else 0) (fun s q hs hq h0 => by
    show (if 240 * s + q = 240 * i + p then hr N (gr_lv N T.2.1) (240 * i + p) else 0) = 0
    by_cases z : 240 * s + q = 240 * i + p
    · rw [if_pos z, ← z]
      exact h0
    · rw [if_neg z])
  refine e3.trans ?_
  rw [sum2_c (h := fun s q => if s = i ∧ q = p then hr N (gr_lv N T.2.1) (240 * i + p) else 0) (fun s q hs hq => ?_), sum2_one hi hp]
  by_cases z : s = i ∧ q = p
  · rw [if_pos z, z.1, z.2, if_pos hh, if_pos rfl]
  · rw [if_neg z, if_neg (show ¬ 240 * s + q = 240 * i + p by omega), ite_self]
theorem ref_capE (t : tls T N) {i p : Nat} (hi : i < T.2.1) (hp : p < 2 * (gr_lv N T.2.1).length) (hh : ¬ hotB N i = true) : fl_sum (fun e => pcap (gr_A N T.2.1) e * zi (aY (gr_A N T.2.1) e = 2881 ∧ aT (gr_A N T.2.1) e = 240 * i + p ∧ aT (gr_A N T.2.1) e < 2880)) (gr_A N T.2.1).length = hr N (gr_lv N T.2.1) (240 * i + p) := by
  have hM := t.k.1
  have hL := gr_lv_len t
  have e1 := fs_ls (fun a => a.2.2.1.toInt * zi (a.2.1 = 2881 ∧ a.1 = 240 * i + p ∧ a.1 < 2880)) (gr_A N T.2.1)
  refine e1.trans ?_
  have e2 : ls (fun a => a.2.2.1.toInt * zi (a.2.1 = 2881 ∧ a.1 = 240 * i + p ∧ a.1 < 2880)) (gr_A N T.2.1) = ls (fun a => if a.2.1 = 2881 then (if a.1 = 240 * i + p then hr N (gr_lv N T.2.1) (240 * i + p) else 0) else 0) (gr_A N T.2.1) := by
    refine ls_c _ (fun a ha => ?_)
    obtain ⟨-, w⟩ := ref_arc t ha
    by_cases z : a.2.1 = 2881
    · rw [if_pos z]
      by_cases y : a.1 = 240 * i + p
      · rw [if_pos y, show zi (a.2.1 = 2881 ∧ a.1 = 240 * i + p ∧ a.1 < 2880) = 1 from if_pos ⟨z, y, by omega⟩, Int.mul_one]
        rcases w with ⟨-, q2, -⟩ | ⟨-, -, q3, -⟩ | ⟨-, q2, -⟩
        · omega
        · rw [q3, y]
        · omega
      · rw [if_neg y, show zi (a.2.1 = 2881 ∧ a.1 = 240 * i + p ∧ a.1 < 2880) = 0 from if_neg (fun h => y h.2.1), Int.mul_zero]
    · rw [if_neg z, show zi (a.2.1 = 2881 ∧ a.1 = 240 * i + p ∧ a.1 < 2880) = 0 from if_neg (fun h => z h.1), Int.mul_zero]
  rw [e2]
  have e3 := ref_dem (L := gr_lv N T.2.1) t.k (by omega) (fun x => if x = 240 * i + p then hr N (gr_lv N T.2.1) (240 * i + p) else 0) (fun s q hs hq h0 => by
    show (if 240 * s + q = 240 * i + p then hr N (gr_lv N T.2.1) (240 * i + p) else 0) = 0
    by_cases z : 240 * s + q = 240 * i + p
    · rw [if_pos z, ← z]
      exact h0
    · rw [if_neg z])
  refine e3.trans ?_
  rw [sum2_c (h := fun s q => if s = i ∧ q = p then hr N (gr_lv N T.2.1) (240 * i + p) else 0) (fun s q hs hq => ?_), sum2_one hi hp]
  by_cases z : s = i ∧ q = p
  · rw [if_pos z, z.1, z.2, if_neg hh, if_pos rfl]
  · rw [if_neg z, if_neg (show ¬ 240 * s + q = 240 * i + p by omega), ite_self]
/-- what a flow of the reference's gives and takes -/
theorem ref_caps (t : tls T N) (ok : fl_ok (gr_A N T.2.1).length (pcap (gr_A N T.2.1)) r) {i p : Nat} (hi : i < T.2.1) (hp : p < 2 * (gr_lv N T.2.1).length) : (hotB N i = true → rS (gr_A N T.2.1) r (240 * i + p) ≤ hr N (gr_lv N T.2.1) (240 * i + p)) ∧ (¬ hotB N i = true → rE (gr_A N T.2.1) r (240 * i + p) ≤ hr N (gr_lv N T.2.1) (240 * i + p)) := by
  constructor
  · intro hh
    rw [← ref_capS t hi hp hh]
    exact cap_le ok (fun e _ => zi_nn _)
  · intro hh
    rw [← ref_capE t hi hp hh]
    exact cap_le ok (fun e _ => zi_nn _)
theorem ref_capf (t : tls T N) (ok : fl_ok (gr_A N T.2.1).length (pcap (gr_A N T.2.1)) r) (full : ∀ e, e < (gr_A N T.2.1).length → pC (gr_A N T.2.1) (2 * e) = -1000000 → r (2 * e) = 0) {i p : Nat} (hi : i < T.2.1) (hp : p < 2 * (gr_lv N T.2.1).length) (h3 : ¬ 3 ≤ N (2 + 24 * i)) : (hotB N i = true → rS (gr_A N T.2.1) r (240 * i + p) = hr N (gr_lv N T.2.1) (240 * i + p)) ∧ (¬ hotB N i = true → rE (gr_A N T.2.1) r (240 * i + p) = hr N (gr_lv N T.2.1) (240 * i + p)) := by
  have hL := gr_lv_len t
  have gc := (gcost_i t.k hi).1
  rw [if_neg h3] at gc
  have pc : ∀ e, e < (gr_A N T.2.1).length → pC (gr_A N T.2.1) (2 * e) = ((gr_A N T.2.1).getD e gd).2.2.2.toInt := fun e he => by
    have q := (hv_get (gr_A N T.2.1) e he).1
    show ((hv (gr_A N T.2.1)).getD (2 * e) hd).2.2.toInt = _
    rw [q]
  constructor
  · intro hh
    rw [← ref_capS t hi hp hh]
    refine cap_eq ok (fun e he => ?_)
    by_cases z : ((gr_A N T.2.1).getD e gd).1 = 2880 ∧ ((gr_A N T.2.1).getD e gd).2.1 = 240 * i + p ∧ ((gr_A N T.2.1).getD e gd).2.1 < 2880
    · right
      refine full e he ?_
      rw [pc e he]
      obtain ⟨z1, z2, z3⟩ := z
      obtain ⟨-, w⟩ := ref_arc t (getD_mem he)
      rcases w with ⟨-, -, -, q4, -⟩ | ⟨q1, -⟩ | ⟨q1, -⟩
      · rw [q4, z2, show (240 * i + p) / 240 = i by omega]
        exact gc
      · omega
      · omega
    · exact Or.inl (if_neg z)
  · intro hh
    rw [← ref_capE t hi hp hh]
    refine cap_eq ok (fun e he => ?_)
    by_cases z : ((gr_A N T.2.1).getD e gd).2.1 = 2881 ∧ ((gr_A N T.2.1).getD e gd).1 = 240 * i + p ∧ ((gr_A N T.2.1).getD e gd).1 < 2880
    · right
      refine full e he ?_
      rw [pc e he]
      obtain ⟨z1, z2, z3⟩ := z
      obtain ⟨-, w⟩ := ref_arc t (getD_mem he)
      rcases w with ⟨-, q2, -⟩ | ⟨-, -, -, q4, -⟩ | ⟨-, q2, -⟩
      · omega
      · rw [q4, z2, show (240 * i + p) / 240 = i by omega]
        exact gc
      · omega
    · exact Or.inl (if_neg z)
theorem ref_cost (t : tls T N) : fl_cost (gr_A N T.2.1).length (pC (gr_A N T.2.1)) r = sum2 T.2.1 (2 * (gr_lv N T.2.1).length) (fun i p => c2i N ((240 * i + p) / 240) * rS (gr_A N T.2.1) r (240 * i + p)) + sum2 T.2.1 (2 * (gr_lv N T.2.1).length) (fun i p => c2i N ((240 * i + p) / 240) * rE (gr_A N T.2.1) r (240 * i + p)) := by
  have hM := t.k.1
  have hL := gr_lv_len t
  have s1 := PhS (r := rO r) hM (show 2 * (gr_lv N T.2.1).length ≤ 240 by omega) (ref_ty t) (fun c => c2i N (c / 240))
  have s2 := PhE (r := rO r) hM (show 2 * (gr_lv N T.2.1).length ≤ 240 by omega) (ref_ty t) (fun c => c2i N (c / 240))
  have s1' : sum2 T.2.1 (2 * (gr_lv N T.2.1).length) (fun i p => c2i N ((240 * i + p) / 240) * rS (gr_A N T.2.1) r (240 * i + p)) = _ := s1
  have s2' : sum2 T.2.1 (2 * (gr_lv N T.2.1).length) (fun i p => c2i N ((240 * i + p) / 240) * rE (gr_A N T.2.1) r (240 * i + p)) = _ := s2
  rw [wt_cost, s1', s2', ← Ph_add]
  refine fl_sum_congr _ (fun e he => ?_)
  obtain ⟨-, w⟩ := ref_arc t (getD_mem he)
  show r (2 * e + 1) * ((gr_A N T.2.1).getD e gd).2.2.2.toInt = r (2 * e + 1) * ((if ((gr_A N T.2.1).getD e gd).1 = 2880 ∧ ((gr_A N T.2.1).getD e gd).2.1 < 2880 then c2i N (((gr_A N T.2.1).getD e gd).2.1 / 240) else 0) + (if ((gr_A N T.2.1).getD e gd).2.1 = 2881 ∧ ((gr_A N T.2.1).getD e gd).1 < 2880 then c2i N (((gr_A N T.2.1).getD e gd).1 / 240) else 0))
  rcases w with ⟨q1, q2, q3, q4, -⟩ | ⟨q1, q2, q3, q4, -⟩ | ⟨q1, q2, q3, q4⟩
  · rw [if_pos ⟨q1, q2⟩, if_neg (show ¬ (((gr_A N T.2.1).getD e gd).2.1 = 2881 ∧ ((gr_A N T.2.1).getD e gd).1 < 2880) by omega), Int.add_zero, q4]
    rfl
  · rw [if_neg (show ¬ (((gr_A N T.2.1).getD e gd).1 = 2880 ∧ ((gr_A N T.2.1).getD e gd).2.1 < 2880) by omega), if_pos ⟨q2, q1⟩, Int.zero_add, q4]
    rfl
  · rw [if_neg (show ¬ (((gr_A N T.2.1).getD e gd).1 = 2880 ∧ ((gr_A N T.2.1).getD e gd).2.1 < 2880) by omega), if_neg (show ¬ (((gr_A N T.2.1).getD e gd).2.1 = 2881 ∧ ((gr_A N T.2.1).getD e gd).1 < 2880) by omega), q4]
    rfl
/-- back: a flow of a plan -/
theorem ref_back (t : tls T N) {S E K : Nat → Int} {X : Nat → Nat → Int} (P : pn (hotB N) (gr_may N) T.2.1 (2 * (gr_lv N T.2.1).length) S E K X) (cp : ∀ i p, i < T.2.1 → p < 2 * (gr_lv N T.2.1).length → (hotB N i = true → S (240 * i + p) ≤ hr N (gr_lv N T.2.1) (240 * i + p)) ∧ (¬ hotB N i = true → E (240 * i + p) ≤ hr N (gr_lv N T.2.1) (240 * i + p))) (kx : ∀ c, K c ≤ 2 ^ 50) (xx : ∀ j c, X j c ≤ 2 ^ 50) : ∃ r D, fl_ok (gr_A N T.2.1).length (pcap (gr_A N T.2.1)) r ∧ fl_div (gr_A N T.2.1).length (pT (gr_A N T.2.1)) (pY (gr_A N T.2.1)) r 2880 2881 D ∧ fl_cost (gr_A N T.2.1).length (pC (gr_A N T.2.1)) r = sum2 T.2.1 (2 * (gr_lv N T.2.1).length) (fun i p => c2i N ((240 * i + p) / 240) * S (240 * i + p)) + sum2 T.2.1 (2 * (gr_lv N T.2.1).length) (fun i p => c2i N ((240 * i + p) / 240) * E (240 * i + p)) ∧ ((∀ i p, i < T.2.1 → p < 2 * (gr_lv N T.2.1).length → ¬ 3 ≤ N (2 + 24 * i) → (hotB N i = true → S (240 * i + p) = hr N (gr_lv N T.2.1) (240 * i + p)) ∧ (¬ hotB N i = true → E (240 * i + p) = hr N (gr_lv N T.2.1) (240 * i + p))) → ∀ e, e < (gr_A N T.2.1).length → pC (gr_A N T.2.1) (2 * e) = -1000000 → r (2 * e) = 0) := by
  have hM := t.k.1
  have hL := gr_lv_len t
  have P0 := P
  obtain ⟨P1, P2, P3, P4, P5, P6, P7⟩ := P
  have h0 : ∀ s p, s < T.2.1 → p < 2 * (gr_lv N T.2.1).length → hr N (gr_lv N T.2.1) (240 * s + p) = 0 → S (240 * s + p) = 0 ∧ E (240 * s + p) = 0 := by
    intro s p hs hp z
    have q := cp s p hs hp
    have p1 := P1 (240 * s + p)
    have p7 := P7 s p hs hp
    by_cases y : hotB N s = true
    · have := q.1 y
      exact ⟨by omega, p7.1 y⟩
    · have := q.2 y
      exact ⟨p7.2 y, by omega⟩
  have typ := fun {a : gA} (ha : a ∈ gr_A N T.2.1) => ref_arc t ha
  have fval : ∀ a, a ∈ gr_A N T.2.1 → (a.1 = 2880 → f2 N S E K X a = S a.2.1) ∧ (a.2.1 = 2881 → f2 N S E K X a = E a.1) := by
    intro a ha
    obtain ⟨-, w⟩ := typ ha
    unfold f2
    constructor
    · intro z
      rw [if_pos z]
    · intro z
      rcases w with ⟨-, q2, -⟩ | ⟨q1, -⟩ | ⟨-, q2, -⟩
      · omega
      · rw [if_neg (by omega), if_pos z]
      · omega
  have code : ∀ c, c < 2880 → c = 240 * (c / 240) + c % 240 := fun c _ => by omega
  refine ⟨rof (gr_A N T.2.1) (f2 N S E K X), ls (fun a => if a.2.1 = 2881 then E a.1 else 0) (gr_A N T.2.1), rof_ok (fun a ha => ?_), fun p => ?_, ?_, fun fu e he hc0 => ?_⟩
  · obtain ⟨tya, w⟩ := typ ha
    rcases w with ⟨q1, q2, q3, -⟩ | ⟨q1, q2, q3, -⟩ | ⟨q1, q2, q3, -⟩
    · rw [(fval a ha).1 q1, q3]
      rcases tya with ⟨t1, t2, t3, t4, t5⟩ | ⟨t1, -⟩ | ⟨t1, -⟩ | ⟨t1, -⟩ | ⟨t1, t2⟩
      · have q := (cp _ _ t4 t5).1 t3
        rw [← code a.2.1 q2] at q
        exact ⟨(P1 _).1, q⟩
      · omega
      · omega
      · omega
      · omega
    · rw [(fval a ha).2 q2, q3]
      rcases tya with ⟨t1, t2, -⟩ | ⟨t1, t2, t3, t4, t5⟩ | ⟨t1, t2, -⟩ | ⟨t1, t2, -⟩ | ⟨t1, t2⟩
      · omega
      · have q := (cp _ _ t4 t5).2 t3
        rw [← code a.1 q1] at q
        exact ⟨(P1 _).2.1, q⟩
      · omega
      · omega
      · omega
    · rw [q3, show (1125899906842624 : Int64).toInt = 2 ^ 50 from rfl]
      unfold f2
      rw [if_neg (by omega), if_neg (by omega)]
      split
      · exact ⟨(P1 _).2.2, kx _⟩
      · exact ⟨P2 _ _, xx _ _⟩
  · rw [wt_div, rof_wt (gr_A N T.2.1) (f2 N S E K X) (fun a => p a.2.1 - p a.1)]
    have cv := fun (π : Nat → Int) (h1 : π 2880 = 0) (h2 : π 2881 = 0) => ref_cv (L := gr_lv N T.2.1) t.k (by omega) P0 h0 h1 h2
    have dd : ls (fun a => if a.1 = 2880 then S a.2.1 else 0) (gr_A N T.2.1) = ls (fun a => if a.2.1 = 2881 then E a.1 else 0) (gr_A N T.2.1) := by
      have q := cv (fun v => if v = 2880 ∨ v = 2881 then 0 else 1) (if_pos (Or.inl rfl)) (if_pos (Or.inr rfl))
      have e1 : ls (fun a => f2 N S E K X a * ((if a.2.1 = 2880 ∨ a.2.1 = 2881 then 0 else 1) - (if a.1 = 2880 ∨ a.1 = 2881 then 0 else 1))) (gr_A N T.2.1) = ls (fun a => (if a.1 = 2880 then S a.2.1 else 0) + -(if a.2.1 = 2881 then E a.1 else 0)) (gr_A N T.2.1) := by
        refine ls_c _ (fun a ha => ?_)
        obtain ⟨-, w⟩ := typ ha
        rcases w with ⟨q1, q2, -⟩ | ⟨q1, q2, -⟩ | ⟨q1, q2, -⟩
        · rw [(fval a ha).1 q1, if_pos q1, if_neg (show ¬ a.2.1 = 2881 by omega), if_neg (show ¬ (a.2.1 = 2880 ∨ a.2.1 = 2881) by omega), if_pos (Or.inl q1)]
          omega
        · rw [(fval a ha).2 q2, if_neg (show ¬ a.1 = 2880 by omega), if_pos q2, if_pos (Or.inr q2), if_neg (show ¬ (a.1 = 2880 ∨ a.1 = 2881) by omega)]
          omega
        · rw [if_neg (show ¬ a.1 = 2880 by omega), if_neg (show ¬ a.2.1 = 2881 by omega), if_neg (show ¬ (a.2.1 = 2880 ∨ a.2.1 = 2881) by omega), if_neg (show ¬ (a.1 = 2880 ∨ a.1 = 2881) by omega), Int.sub_self, Int.mul_zero]
          rfl
      have e2 := e1.symm.trans q
      rw [ls_add] at e2
      have e3 : ∀ l, ls (fun a => -(if a.2.1 = 2881 then E a.1 else 0)) l = -(ls (fun a => if a.2.1 = 2881 then E a.1 else 0) l) := by
        intro l
        induction l with
        | nil => rfl
        | cons a l ih =>
          show -(if a.2.1 = 2881 then E a.1 else 0) + ls (fun a => -(if a.2.1 = 2881 then E a.1 else 0)) l = -((if a.2.1 = 2881 then E a.1 else 0) + ls (fun a => if a.2.1 = 2881 then E a.1 else 0) l)
          rw [ih]
          omega
      rw [e3] at e2
      omega
    have q := cv (fun v => if v = 2880 ∨ v = 2881 then 0 else p v) (if_pos (Or.inl rfl)) (if_pos (Or.inr rfl))
    have e1 : ls (fun a => f2 N S E K X a * (p a.2.1 - p a.1)) (gr_A N T.2.1) = ls (fun a => f2 N S E K X a * ((if a.2.1 = 2880 ∨ a.2.1 = 2881 then 0 else p a.2.1) - (if a.1 = 2880 ∨ a.1 = 2881 then 0 else p a.1)) + (p 2881 * (if a.2.1 = 2881 then E a.1 else 0) + -(p 2880) * (if a.1 = 2880 then S a.2.1 else 0))) (gr_A N T.2.1) := by
      refine ls_c _ (fun a ha => ?_)
      obtain ⟨-, w⟩ := typ ha
      rcases w with ⟨q1, q2, -⟩ | ⟨q1, q2, -⟩ | ⟨q1, q2, -⟩
      · rw [(fval a ha).1 q1, if_pos q1, if_neg (show ¬ a.2.1 = 2881 by omega), if_neg (show ¬ (a.2.1 = 2880 ∨ a.2.1 = 2881) by omega), if_pos (Or.inl q1), q1]
        grind
      · rw [(fval a ha).2 q2, if_neg (show ¬ a.1 = 2880 by omega), if_pos q2, if_pos (Or.inr q2), if_neg (show ¬ (a.1 = 2880 ∨ a.1 = 2881) by omega), q2]
        grind
      · rw [if_neg (show ¬ a.1 = 2880 by omega), if_neg (show ¬ a.2.1 = 2881 by omega), if_neg (show ¬ (a.2.1 = 2880 ∨ a.2.1 = 2881) by omega), if_neg (show ¬ (a.1 = 2880 ∨ a.1 = 2881) by omega), Int.mul_zero, Int.mul_zero]
        omega
    have lm : ∀ (c : Int) (ψ : gA → Int) l, ls (fun a => c * ψ a) l = c * ls ψ l := by
      intro c ψ l
      induction l with
      | nil => exact (Int.mul_zero c).symm
      | cons a l ih =>
        show c * ψ a + ls (fun a => c * ψ a) l = c * (ψ a + ls ψ l)
        rw [ih, Int.mul_add]
    rw [e1, ls_add, ls_add, lm, lm, dd]
    have q' : ls (fun a => f2 N S E K X a * ((if a.2.1 = 2880 ∨ a.2.1 = 2881 then 0 else p a.2.1) - (if a.1 = 2880 ∨ a.1 = 2881 then 0 else p a.1))) (gr_A N T.2.1) = 0 := q
    rw [q']
    grind
  · rw [wt_cost, rof_wt (gr_A N T.2.1) (f2 N S E K X) (fun a => a.2.2.2.toInt)]
    have e1 : ls (fun a => f2 N S E K X a * a.2.2.2.toInt) (gr_A N T.2.1) = ls (fun a => (if a.1 = 2880 then c2i N (a.2.1 / 240) * S a.2.1 else 0) + (if a.2.1 = 2881 then c2i N (a.1 / 240) * E a.1 else 0)) (gr_A N T.2.1) := by
      refine ls_c _ (fun a ha => ?_)
      obtain ⟨-, w⟩ := typ ha
      rcases w with ⟨q1, q2, q3, q4, -⟩ | ⟨q1, q2, q3, q4, -⟩ | ⟨q1, q2, q3, q4⟩
      · rw [(fval a ha).1 q1, if_pos q1, if_neg (show ¬ a.2.1 = 2881 by omega), q4, Int.add_zero, Int.mul_comm]
        rfl
      · rw [(fval a ha).2 q2, if_neg (show ¬ a.1 = 2880 by omega), if_pos q2, q4, Int.zero_add, Int.mul_comm]
        rfl
      · rw [if_neg (show ¬ a.1 = 2880 by omega), if_neg (show ¬ a.2.1 = 2881 by omega), q4]
        show _ * (0 : Int) = 0 + 0
        rw [Int.mul_zero]
        rfl
    have s1 := ref_sup (L := gr_lv N T.2.1) t.k (by omega) (fun c => c2i N (c / 240) * S c) (fun s q hs hq z => by
      show c2i N ((240 * s + q) / 240) * S (240 * s + q) = 0
      rw [(h0 s q hs hq z).1, Int.mul_zero])
    have s2 := ref_dem (L := gr_lv N T.2.1) t.k (by omega) (fun c => c2i N (c / 240) * E c) (fun s q hs hq z => by
      show c2i N ((240 * s + q) / 240) * E (240 * s + q) = 0
      rw [(h0 s q hs hq z).2, Int.mul_zero])
    rw [e1, ls_add]
    refine (congrArg (fun x => x + _) s1).trans ((congrArg (fun x => _ + x) s2).trans ?_)
    have u1 : sum2 T.2.1 (2 * (gr_lv N T.2.1).length) (fun s p => if hotB N s = true then c2i N ((240 * s + p) / 240) * S (240 * s + p) else 0) = sum2 T.2.1 (2 * (gr_lv N T.2.1).length) (fun i p => c2i N ((240 * i + p) / 240) * S (240 * i + p)) := by
      refine sum2_c (fun s p hs hp => ?_)
      by_cases y : hotB N s = true
      · rw [if_pos y]
      · rw [if_neg y, (P7 s p hs hp).2 y, Int.mul_zero]
    have u2 : sum2 T.2.1 (2 * (gr_lv N T.2.1).length) (fun s p => if hotB N s = true then 0 else c2i N ((240 * s + p) / 240) * E (240 * s + p)) = sum2 T.2.1 (2 * (gr_lv N T.2.1).length) (fun i p => c2i N ((240 * i + p) / 240) * E (240 * i + p)) := by
      refine sum2_c (fun s p hs hp => ?_)
      by_cases y : hotB N s = true
      · rw [if_pos y, (P7 s p hs hp).1 y, Int.mul_zero]
      · rw [if_neg y]
    rw [← u1, ← u2]
  · have pc : pC (gr_A N T.2.1) (2 * e) = ((gr_A N T.2.1).getD e gd).2.2.2.toInt := by
      have q := (hv_get (gr_A N T.2.1) e he).1
      show ((hv (gr_A N T.2.1)).getD (2 * e) hd).2.2.toInt = _
      rw [q]
    rw [pc] at hc0
    have e0 : rof (gr_A N T.2.1) (f2 N S E K X) (2 * e) = ((gr_A N T.2.1).getD e gd).2.2.1.toInt - f2 N S E K X ((gr_A N T.2.1).getD e gd) := by
      unfold rof
      rw [if_neg (by omega), show 2 * e / 2 = e by omega]
      rfl
    rw [e0]
    have ha := getD_mem he
    generalize (gr_A N T.2.1).getD e gd = a at *
    obtain ⟨tya, w⟩ := typ ha
    rcases w with ⟨q1, q2, q3, q4, q5⟩ | ⟨q1, q2, q3, q4, q5⟩ | ⟨q1, q2, q3, q4⟩
    · have gc := gcost_i t.k q5
      rw [q4, gc.1] at hc0
      have n3 : ¬ 3 ≤ N (2 + 24 * (a.2.1 / 240)) := fun z => by
        rw [if_pos z] at hc0
        have := gc.2 z
        omega
      rcases tya with ⟨t1, t2, t3, t4, t5⟩ | ⟨t1, -⟩ | ⟨t1, -⟩ | ⟨t1, -⟩ | ⟨t1, t2⟩
      · have q := (fu _ _ t4 t5 n3).1 t3
        rw [← code a.2.1 q2] at q
        rw [(fval a ha).1 q1, q3, q]
        omega
      · omega
      · omega
      · omega
      · omega
    · have gc := gcost_i t.k q5
      rw [q4, gc.1] at hc0
      have n3 : ¬ 3 ≤ N (2 + 24 * (a.1 / 240)) := fun z => by
        rw [if_pos z] at hc0
        have := gc.2 z
        omega
      rcases tya with ⟨t1, t2, -⟩ | ⟨t1, t2, t3, t4, t5⟩ | ⟨t1, t2, -⟩ | ⟨t1, t2, -⟩ | ⟨t1, t2⟩
      · omega
      · have q := (fu _ _ t4 t5 n3).2 t3
        rw [← code a.1 q1] at q
        rw [(fval a ha).2 q2, q3, q]
        omega
      · omega
      · omega
      · omega
    · rw [q4] at hc0
      exact absurd hc0 (by decide)
end
