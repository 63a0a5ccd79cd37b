/-! flows and plans: sums, costs -/
def rof (A : List gA) (f : gA → Int) (i : Nat) : Int := if i % 2 = 1 then f (A.getD (i / 2) gd) else pcap A (i / 2) - f (A.getD (i / 2) gd)
theorem getD_mem {A : List gA} {e : Nat} (he : e < A.length) : A.getD e gd ∈ A := by
  rw [List.getD_eq_getElem?_getD, List.getElem?_eq_getElem he]
  exact List.getElem_mem he
theorem mem_getD {A : List gA} {a : gA} (h : a ∈ A) : ∃ e, e < A.length ∧ A.getD e gd = a := by
  obtain ⟨e, he, q⟩ := List.getElem_of_mem h
  refine ⟨e, he, ?_⟩
  rw [List.getD_eq_getElem?_getD, List.getElem?_eq_getElem he]
  exact q
theorem rof_ok {A : List gA} {f : gA → Int} (h : ∀ a, a ∈ A → 0 ≤ f a ∧ f a ≤ a.2.2.1.toInt) : fl_ok A.length (pcap A) (rof A f) := by
  intro e he
  have q := h _ (getD_mem he)
  have e0 : rof A f (2 * e) = pcap A e - f (A.getD e gd) := by
    unfold rof
    rw [if_neg (by omega), show 2 * e / 2 = e by omega]
  have e1 : rof A f (2 * e + 1) = f (A.getD e gd) := by
    unfold rof
    rw [if_pos (by omega), show (2 * e + 1) / 2 = e by omega]
  have ec : pcap A e = (A.getD e gd).2.2.1.toInt := rfl
  rw [e0, e1, ec]
  omega
theorem rof_wt (A : List gA) (f ψ : gA → Int) : fl_wt A.length (fun e => ψ (A.getD e gd)) (rof A f) = ls (fun a => f a * ψ a) A := by
  rw [← fs_ls]
  refine fl_sum_congr _ (fun e _ => ?_)
  have e1 : rof A f (2 * e + 1) = f (A.getD e gd) := by
    unfold rof
    rw [if_pos (by omega), show (2 * e + 1) / 2 = e by omega]
  show rof A f (2 * e + 1) * ψ (A.getD e gd) = _
  rw [e1]
theorem wt_div (A : List gA) (r p : Nat → Int) : fl_wt A.length (fun e => p (pY A (2 * e)) - p (pT A (2 * e))) r = fl_wt A.length (fun e => p (A.getD e gd).2.1 - p (A.getD e gd).1) r := by
  refine fl_sum_congr _ (fun e he => ?_)
  have q := (hv_get A e he).1
  show r (2 * e + 1) * (p ((hv A).getD (2 * e) hd).2.1 - p ((hv A).getD (2 * e) hd).1) = _
  rw [q]
theorem wt_cost (A : List gA) (r : Nat → Int) : fl_cost A.length (pC A) r = fl_wt A.length (fun e => (A.getD e gd).2.2.2.toInt) r := by
  refine fl_sum_congr _ (fun e he => ?_)
  have q := (hv_get A e he).1
  show r (2 * e + 1) * ((hv A).getD (2 * e) hd).2.2.toInt = _
  rw [q]
theorem sum2_one {M Q i p : Nat} (hi : i < M) (hp : p < Q) (x : Int) : sum2 M Q (fun s q => if s = i ∧ q = p then x else 0) = x := by
  have e : sum2 M Q (fun s q => if s = i ∧ q = p then x else 0) = fl_sum (fun s => if s = i then x else 0) M := by
    refine fl_sum_congr M (fun s _ => ?_)
    by_cases z : s = i
    · rw [if_pos z]
      rw [fl_sum_congr (h := fun q => if q = p then x else 0) Q (fun q _ => by
        show (if s = i ∧ q = p then x else 0) = if q = p then x else 0
        by_cases y : q = p
        · rw [if_pos (show s = i ∧ q = p from ⟨z, y⟩), if_pos y]
        · rw [if_neg (show ¬ (s = i ∧ q = p) from fun h => y h.2), if_neg y]), fl_sum_one, if_pos hp]
    · rw [if_neg z]
      exact fs_0 Q (fun q _ => if_neg (fun h => z h.1))
  rw [e, fl_sum_one, if_pos hi]
theorem sum2_add {M Q : Nat} (g h : Nat → Nat → Int) : sum2 M Q (fun s p => g s p + h s p) = sum2 M Q g + sum2 M Q h := by
  unfold sum2
  rw [← fl_sum_add]
  exact fl_sum_congr M (fun s _ => fl_sum_add _ _ _)
theorem sum2_sub {M Q : Nat} (g h : Nat → Nat → Int) : sum2 M Q (fun s p => g s p - h s p) = sum2 M Q g - sum2 M Q h := by
  unfold sum2
  rw [← fl_sum_sub]
  exact fl_sum_congr M (fun s _ => fl_sum_sub _ _ _)
theorem sum2_mul {M Q : Nat} (c : Int) (g : Nat → Nat → Int) : sum2 M Q (fun s p => c * g s p) = c * sum2 M Q g := by
  unfold sum2
  rw [← fl_sum_mul]
  exact fl_sum_congr M (fun s _ => fl_sum_mul _ _ _)
theorem sum2_nn {M Q : Nat} {g : Nat → Nat → Int} (h : ∀ s p, s < M → p < Q → 0 ≤ g s p) : 0 ≤ sum2 M Q g := fs_nn M (fun s hs => fs_nn Q (fun p hp => h s p hs hp))
theorem sum2_le1 {M Q : Nat} {g : Nat → Nat → Int} (h : ∀ s p, s < M → p < Q → 0 ≤ g s p) {i p : Nat} (hi : i < M) (hp : p < Q) : g i p ≤ sum2 M Q g := Int.le_trans (fs_le1 Q (fun q hq => h i q hi hq) p hp) (fs_le1 M (g := fun s => fl_sum (fun p => g s p) Q) (fun s hs => fs_nn Q (fun q hq => h s q hs hq)) i hi)
section
variable {hot : Nat → Bool} {may : Nat → Nat → Prop} {M Q m : Nat} {r : Nat → Int} {t y : Nat → Nat}
theorem Ph_mul (c : Int) (χ : Nat → Nat → Int) : Ph m r t y (fun a b => c * χ a b) = c * Ph m r t y χ := by
  unfold Ph
  rw [← fl_sum_mul]
  exact fl_sum_congr m (fun e _ => by grind)
theorem PhS (hM : M ≤ 12) (hQ : Q ≤ 240) (ty : ∀ e, e < m → ty_ok hot may M Q (t e) (y e)) (g : Nat → Int) : sum2 M Q (fun i p => g (240 * i + p) * fS m r t y (240 * i + p)) = Ph m r t y (fun a b => if a = 2880 ∧ b < 2880 then g b else 0) := by
  have e1 : sum2 M Q (fun i p => g (240 * i + p) * fS m r t y (240 * i + p)) = fl_sum (fun i => Ph m r t y (fun a b => fl_sum (fun p => g (240 * i + p) * zi (a = 2880 ∧ b = 240 * i + p ∧ b < 2880)) Q)) M := by
    refine fl_sum_congr M (fun i _ => ?_)
    rw [← Ph_fs]
    refine fl_sum_congr Q (fun p _ => ?_)
    unfold fS
    rw [Ph_mul]
  rw [e1, Ph_fs]
  refine Ph_c (fun e he => ?_)
  have q := ty e he
  generalize t e = a at *
  generalize y e = b at *
  show sum2 M Q (fun i p => g (240 * i + p) * zi (a = 2880 ∧ b = 240 * i + p ∧ b < 2880)) = if a = 2880 ∧ b < 2880 then g b else 0
  by_cases z : a = 2880 ∧ b < 2880
  · rw [if_pos z]
    have bl : b / 240 < M ∧ b % 240 < Q := by
      rcases q with ⟨q1, q2, q3, q4, q5⟩ | ⟨q1, q2, q3, q4, q5⟩ | ⟨q1, q2, q3, q4, q5, q6, q7⟩ | ⟨q1, q2, q3, q4, q5, q6, q7, q8⟩ | ⟨q1, q2⟩ <;> omega
    rw [sum2_c (h := fun i p => if i = b / 240 ∧ p = b % 240 then g b else 0) (fun i p hi hp => ?_), sum2_one bl.1 bl.2]
    by_cases w : i = b / 240 ∧ p = b % 240
    · have eb : b = 240 * i + p := by omega
      rw [if_pos w, show zi (a = 2880 ∧ b = 240 * i + p ∧ b < 2880) = 1 from if_pos ⟨z.1, eb, z.2⟩, Int.mul_one, ← eb]
    · rw [if_neg w, show zi (a = 2880 ∧ b = 240 * i + p ∧ b < 2880) = 0 from if_neg (fun h => w (by omega)), Int.mul_zero]
  · rw [if_neg z]
    refine fs_0 M (fun i _ => fs_0 Q (fun p _ => ?_))
    show g (240 * i + p) * zi (a = 2880 ∧ b = 240 * i + p ∧ b < 2880) = 0
    rw [show zi (a = 2880 ∧ b = 240 * i + p ∧ b < 2880) = 0 from if_neg (fun h => z ⟨h.1, h.2.2⟩), Int.mul_zero]
theorem PhE (hM : M ≤ 12) (hQ : Q ≤ 240) (ty : ∀ e, e < m → ty_ok hot may M Q (t e) (y e)) (g : Nat → Int) : sum2 M Q (fun i p => g (240 * i + p) * fE m r t y (240 * i + p)) = Ph m r t y (fun a b => if b = 2881 ∧ a < 2880 then g a else 0) := by
  have e1 : sum2 M Q (fun i p => g (240 * i + p) * fE m r t y (240 * i + p)) = fl_sum (fun i => Ph m r t y (fun a b => fl_sum (fun p => g (240 * i + p) * zi (b = 2881 ∧ a = 240 * i + p ∧ a < 2880)) Q)) M := by
    refine fl_sum_congr M (fun i _ => ?_)
    rw [← Ph_fs]
    refine fl_sum_congr Q (fun p _ => ?_)
    unfold fE
    rw [Ph_mul]
  rw [e1, Ph_fs]
  refine Ph_c (fun e he => ?_)
  have q := ty e he
  generalize t e = a at *
  generalize y e = b at *
  show sum2 M Q (fun i p => g (240 * i + p) * zi (b = 2881 ∧ a = 240 * i + p ∧ a < 2880)) = if b = 2881 ∧ a < 2880 then g a else 0
  by_cases z : b = 2881 ∧ a < 2880
  · rw [if_pos z]
    have bl : a / 240 < M ∧ a % 240 < Q := by
      rcases q with ⟨q1, q2, q3, q4, q5⟩ | ⟨q1, q2, q3, q4, q5⟩ | ⟨q1, q2, q3, q4, q5, q6, q7⟩ | ⟨q1, q2, q3, q4, q5, q6, q7, q8⟩ | ⟨q1, q2⟩ <;> omega
    rw [sum2_c (h := fun i p => if i = a / 240 ∧ p = a % 240 then g a else 0) (fun i p hi hp => ?_), sum2_one bl.1 bl.2]
    by_cases w : i = a / 240 ∧ p = a % 240
    · have eb : a = 240 * i + p := by omega
      rw [if_pos w, show zi (b = 2881 ∧ a = 240 * i + p ∧ a < 2880) = 1 from if_pos ⟨z.1, eb, z.2⟩, Int.mul_one, ← eb]
    · rw [if_neg w, show zi (b = 2881 ∧ a = 240 * i + p ∧ a < 2880) = 0 from if_neg (fun h => w (by omega)), Int.mul_zero]
  · rw [if_neg z]
    refine fs_0 M (fun i _ => fs_0 Q (fun p _ => ?_))
    show g (240 * i + p) * zi (b = 2881 ∧ a = 240 * i + p ∧ a < 2880) = 0
    rw [show zi (b = 2881 ∧ a = 240 * i + p ∧ a < 2880) = 0 from if_neg (fun h => z ⟨h.1, h.2.2⟩), Int.mul_zero]
theorem kX_le (j p a b : Nat) : kX hot j p a b ≤ zi (a = 2880 ∧ b < 2880) := by
  unfold kX
  have h1 : 0 ≤ zi (a < 2880 ∧ b < 2880 ∧ a / 240 = j ∧ ¬ hot (b / 240) ∧ b % 240 ≤ p) := by
    unfold zi
    split <;> decide
  have h2 : zi (a = 2880 ∧ b < 2880 ∧ b / 240 = j ∧ b % 240 ≤ p) ≤ zi (a = 2880 ∧ b < 2880) := by
    unfold zi
    split <;> split <;> omega
  omega
theorem fK_le (r0 : ∀ e, e < m → 0 ≤ r e) (c : Nat) : fK hot m r t y c ≤ Ph m r t y (fun a b => zi (a = 2880 ∧ b < 2880)) := by
  unfold fK
  split
  · exact Ph_le r0 (fun e _ => kX_le _ _ _ _)
  · refine Ph_nn r0 (fun e _ => ?_)
    show 0 ≤ zi _
    unfold zi
    split <;> decide
/-- what is bought in the network of a full flow is no more than the cold ones take -/
theorem bS_le (r0 : ∀ e, e < m → 0 ≤ r e) (ty : ∀ e, e < m → ty_ok hot may M Q (t e) (y e)) (cv : ∀ π : Nat → Int, π 2880 = 0 → π 2881 = 0 → (∀ v, 2880 ≤ v → π v = 0) → Ph m r t y (fun a b => π b - π a) = 0) {bt : Nat → Bool} (hb : ∀ j i, j < M → hot j → may j i → ¬ (bt j ∧ bt i)) : Ph m r t y (fun a b => if a = 2880 ∧ b < 2880 then zi (bt (b / 240) = true) else 0) ≤ Ph m r t y (fun a b => if b = 2881 ∧ a < 2880 then zi (¬ bt (a / 240) = true) else 0) := by
  have h0 := cv (fun v => zi (v < 2880 ∧ ((hot (v / 240) ∧ bt (v / 240)) ∨ (¬ hot (v / 240) ∧ ¬ bt (v / 240))))) (if_neg (by omega)) (if_neg (by omega)) (fun v hv2 => if_neg (by omega))
  have h1 : Ph m r t y (fun a b => (if a = 2880 ∧ b < 2880 then zi (bt (b / 240) = true) else 0) - (if b = 2881 ∧ a < 2880 then zi (¬ bt (a / 240) = true) else 0)) ≤ Ph m r t y (fun a b => zi (b < 2880 ∧ ((hot (b / 240) ∧ bt (b / 240)) ∨ (¬ hot (b / 240) ∧ ¬ bt (b / 240)))) - zi (a < 2880 ∧ ((hot (a / 240) ∧ bt (a / 240)) ∨ (¬ hot (a / 240) ∧ ¬ bt (a / 240))))) := by
    refine Ph_le r0 (fun e he => ?_)
    have q := ty e he
    generalize t e = a at *
    generalize y e = b at *
    unfold zi
    rcases q with ⟨q1, q2, q3, q4, q5⟩ | ⟨q1, q2, q3, q4, q5⟩ | ⟨q1, q2, q3, q4, q5, q6, q7⟩ | ⟨q1, q2, q3, q4, q5, q6, q7, q8⟩ | ⟨q1, q2⟩
    · rw [if_pos ⟨q1, q2⟩, if_neg (show ¬ (b = 2881 ∧ a < 2880) by omega), if_neg (show ¬ (a < 2880 ∧ ((hot (a / 240) ∧ bt (a / 240)) ∨ (¬ hot (a / 240) ∧ ¬ bt (a / 240)))) from fun h => by omega)]
      by_cases w : bt (b / 240) = true
      · rw [if_pos w, if_pos ⟨q2, Or.inl ⟨q3, w⟩⟩]
        decide
      · rw [if_neg w]
        split <;> decide
    · rw [if_neg (show ¬ (a = 2880 ∧ b < 2880) by omega), if_pos ⟨q2, q1⟩, if_neg (show ¬ (b < 2880 ∧ ((hot (b / 240) ∧ bt (b / 240)) ∨ (¬ hot (b / 240) ∧ ¬ bt (b / 240)))) from fun h => by omega)]
      by_cases w : bt (a / 240) = true
      · rw [if_neg (fun h => h w), if_neg]
        · decide
        · rintro ⟨-, h | h⟩
          · exact q3 h.1
          · exact h.2 w
      · rw [if_pos w, if_pos ⟨q1, Or.inr ⟨q3, w⟩⟩]
        decide
    · rw [if_neg (show ¬ (a = 2880 ∧ b < 2880) by omega), if_neg (show ¬ (b = 2881 ∧ a < 2880) by omega), q4]
      by_cases w : (hot (b / 240) ∧ bt (b / 240)) ∨ (¬ hot (b / 240) ∧ ¬ bt (b / 240))
      · rw [if_pos ⟨q2, w⟩, if_pos ⟨q1, w⟩]
        decide
      · rw [if_neg (fun h => w h.2), if_neg (fun h => w h.2)]
        decide
    · rw [if_neg (show ¬ (a = 2880 ∧ b < 2880) by omega), if_neg (show ¬ (b = 2881 ∧ a < 2880) by omega)]
      have nb := hb _ _ q6.1 q3 q5
      by_cases w : bt (a / 240) = true
      · have w2 : ¬ bt (b / 240) = true := fun h => nb ⟨w, h⟩
        rw [if_pos ⟨q2, Or.inr ⟨q4, w2⟩⟩, if_pos ⟨q1, Or.inl ⟨q3, w⟩⟩]
        decide
      · rw [if_neg (show ¬ (a < 2880 ∧ ((hot (a / 240) ∧ bt (a / 240)) ∨ (¬ hot (a / 240) ∧ ¬ bt (a / 240)))) from fun h => h.2.elim (fun h => w h.2) (fun h => h.1 q3))]
        split <;> decide
    · rw [if_neg (show ¬ (a = 2880 ∧ b < 2880) by omega), if_neg (show ¬ (b = 2881 ∧ a < 2880) by omega), if_neg (show ¬ (a < 2880 ∧ ((hot (a / 240) ∧ bt (a / 240)) ∨ (¬ hot (a / 240) ∧ ¬ bt (a / 240)))) from fun h => by omega), if_neg (show ¬ (b < 2880 ∧ ((hot (b / 240) ∧ bt (b / 240)) ∨ (¬ hot (b / 240) ∧ ¬ bt (b / 240)))) from fun h => by omega)]
      decide
  rw [Ph_sub] at h1
  have h0' : Ph m r t y (fun a b => zi (b < 2880 ∧ ((hot (b / 240) ∧ bt (b / 240)) ∨ (¬ hot (b / 240) ∧ ¬ bt (b / 240)))) - zi (a < 2880 ∧ ((hot (a / 240) ∧ bt (a / 240)) ∨ (¬ hot (a / 240) ∧ ¬ bt (a / 240))))) = 0 := h0
  omega
theorem TS_TE (ty : ∀ e, e < m → ty_ok hot may M Q (t e) (y e)) (cv : ∀ π : Nat → Int, π 2880 = 0 → π 2881 = 0 → (∀ v, 2880 ≤ v → π v = 0) → Ph m r t y (fun a b => π b - π a) = 0) : Ph m r t y (fun a b => zi (a = 2880 ∧ b < 2880)) = Ph m r t y (fun a b => zi (b = 2881 ∧ a < 2880)) := by
  have h0 := cv (fun v => zi (v < 2880)) (if_neg (by omega)) (if_neg (by omega)) (fun v hv2 => if_neg (by omega))
  have h1 : Ph m r t y (fun a b => zi (b < 2880) - zi (a < 2880)) = Ph m r t y (fun a b => zi (a = 2880 ∧ b < 2880) - zi (b = 2881 ∧ a < 2880)) := by
    refine Ph_c (fun e he => ?_)
    have q := ty e he
    generalize t e = a at *
    generalize y e = b at *
    show zi (b < 2880) - zi (a < 2880) = zi (a = 2880 ∧ b < 2880) - zi (b = 2881 ∧ a < 2880)
    have tr : (a = 2880 ∧ b < 2880) ∨ (a < 2880 ∧ b = 2881) ∨ (a < 2880 ∧ b < 2880) ∨ (2880 ≤ a ∧ 2880 ≤ b) := by
      rcases q with ⟨q1, q2, q3, q4, q5⟩ | ⟨q1, q2, q3, q4, q5⟩ | ⟨q1, q2, q3, q4, q5, q6, q7⟩ | ⟨q1, q2, q3, q4, q5, q6, q7, q8⟩ | ⟨q1, q2⟩
      · exact Or.inl ⟨q1, q2⟩
      · exact Or.inr (Or.inl ⟨q1, q2⟩)
      · exact Or.inr (Or.inr (Or.inl ⟨q1, q2⟩))
      · exact Or.inr (Or.inr (Or.inl ⟨q1, q2⟩))
      · exact Or.inr (Or.inr (Or.inr ⟨q1, q2⟩))
    clear q
    unfold zi
    rcases tr with h | h | h | h
    · rw [if_pos (show b < 2880 by omega), if_neg (show ¬ a < 2880 by omega), if_pos h, if_neg (show ¬ (b = 2881 ∧ a < 2880) by omega)]
    · rw [if_neg (show ¬ b < 2880 by omega), if_pos (show a < 2880 by omega), if_neg (show ¬ (a = 2880 ∧ b < 2880) by omega), if_pos (show b = 2881 ∧ a < 2880 by omega)]
    · rw [if_pos (show b < 2880 by omega), if_pos (show a < 2880 by omega), if_neg (show ¬ (a = 2880 ∧ b < 2880) by omega), if_neg (show ¬ (b = 2881 ∧ a < 2880) by omega)]
      rfl
    · rw [if_neg (show ¬ b < 2880 by omega), if_neg (show ¬ a < 2880 by omega), if_neg (show ¬ (a = 2880 ∧ b < 2880) by omega), if_neg (show ¬ (b = 2881 ∧ a < 2880) by omega)]
  have h0' : Ph m r t y (fun a b => zi (b < 2880) - zi (a < 2880)) = 0 := h0
  rw [h1, Ph_sub] at h0'
  omega
end
