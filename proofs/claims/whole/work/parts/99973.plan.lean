/-! from a flow to a plan: who gives what to whom at which place -/
def ls (ψ : gA → Int) : List gA → Int
  | [] => 0
  | a :: l => ψ a + ls ψ l
theorem ls_app (ψ : gA → Int) : ∀ l m, ls ψ (l ++ m) = ls ψ l + ls ψ m
  | [], m => (Int.zero_add _).symm
  | a :: l, m => by
    show ψ a + ls ψ (l ++ m) = ψ a + ls ψ l + ls ψ m
    rw [ls_app ψ l m, Int.add_assoc]
theorem ls_1 (ψ : gA → Int) (a : gA) : ls ψ [a] = ψ a := Int.add_zero _
theorem ls_c {ψ χ : gA → Int} : ∀ l, (∀ a, a ∈ l → ψ a = χ a) → ls ψ l = ls χ l
  | [], _ => rfl
  | a :: l, h => by
    show ψ a + ls ψ l = χ a + ls χ l
    rw [h a List.mem_cons_self, ls_c l (fun b hb => h b (List.mem_cons_of_mem _ hb))]
theorem ls_le {ψ χ : gA → Int} : ∀ l, (∀ a, a ∈ l → ψ a ≤ χ a) → ls ψ l ≤ ls χ l
  | [], _ => Int.le_refl _
  | a :: l, h => by
    show ψ a + ls ψ l ≤ χ a + ls χ l
    have h1 := h a List.mem_cons_self
    have h2 := ls_le l (fun b hb => h b (List.mem_cons_of_mem _ hb))
    omega
theorem ls_add (ψ χ : gA → Int) : ∀ l, ls (fun a => ψ a + χ a) l = ls ψ l + ls χ l
  | [] => rfl
  | a :: l => by
    show ψ a + χ a + ls (fun a => ψ a + χ a) l = ψ a + ls ψ l + (χ a + ls χ l)
    rw [ls_add ψ χ l]
    omega
theorem ls_0 {ψ : gA → Int} : ∀ l, (∀ a, a ∈ l → ψ a = 0) → ls ψ l = 0
  | [], _ => rfl
  | a :: l, h => by
    show ψ a + ls ψ l = 0
    rw [h a List.mem_cons_self, ls_0 l (fun b hb => h b (List.mem_cons_of_mem _ hb))]
    rfl
theorem fs_head (g : Nat → Int) : ∀ m, fl_sum g (m + 1) = g 0 + fl_sum (fun e => g (e + 1)) m
  | 0 => by
    show 0 + g 0 = g 0 + 0
    omega
  | m + 1 => by
    have ih := fs_head g m
    show fl_sum g (m + 1) + g (m + 1) = g 0 + (fl_sum (fun e => g (e + 1)) m + g (m + 1))
    rw [ih]
    omega
theorem fs_ls (ψ : gA → Int) : ∀ A : List gA, fl_sum (fun e => ψ (A.getD e gd)) A.length = ls ψ A
  | [] => rfl
  | a :: l => by
    show fl_sum (fun e => ψ ((a :: l).getD e gd)) (l.length + 1) = ψ a + ls ψ l
    rw [fs_head, ← fs_ls ψ l]
    rfl
theorem fs_swap (g : Nat → Nat → Int) (m : Nat) : ∀ n, fl_sum (fun i => fl_sum (fun e => g i e) m) n = fl_sum (fun e => fl_sum (fun i => g i e) n) m
  | 0 => by
    show 0 = fl_sum (fun e => 0) m
    have h : ∀ m, fl_sum (fun _ => 0) m = 0 := by
      intro m
      induction m with
      | zero => rfl
      | succ m ih =>
        show fl_sum (fun _ => 0) m + 0 = 0
        rw [ih]
        rfl
    exact (h m).symm
  | n + 1 => by
    show fl_sum (fun i => fl_sum (fun e => g i e) m) n + fl_sum (fun e => g n e) m = fl_sum (fun e => fl_sum (fun i => g i e) n + g n e) m
    rw [fs_swap g m n, fl_sum_add]
theorem fs_0 {g : Nat → Int} : ∀ m, (∀ e, e < m → g e = 0) → fl_sum g m = 0
  | 0, _ => rfl
  | m + 1, h => by
    show fl_sum g m + g m = 0
    rw [fs_0 m (fun e he => h e (by omega)), h m (by omega)]
    rfl
theorem fs_nn {g : Nat → Int} : ∀ m, (∀ e, e < m → 0 ≤ g e) → 0 ≤ fl_sum g m
  | 0, _ => Int.le_refl _
  | m + 1, h => by
    have h1 := fs_nn m (fun e he => h e (by omega))
    have h2 := h m (by omega)
    show 0 ≤ fl_sum g m + g m
    omega
theorem fs_le1 {g : Nat → Int} : ∀ m, (∀ e, e < m → 0 ≤ g e) → ∀ e, e < m → g e ≤ fl_sum g m
  | 0, _, e, he => absurd he (by omega)
  | m + 1, h, e, he => by
    show g e ≤ fl_sum g m + g m
    by_cases z : e = m
    · have := fs_nn m (fun e he => h e (by omega))
      rw [z]
      omega
    · have h1 := fs_le1 m (fun e he => h e (by omega)) e (by omega)
      have h2 := h m (by omega)
      omega
theorem fs_eq0 {g : Nat → Int} (m : Nat) (h : ∀ e, e < m → 0 ≤ g e) (z : fl_sum g m = 0) : ∀ e, e < m → g e = 0 := fun e he => by
  have h1 := fs_le1 m h e he
  have h2 := h e he
  omega
abbrev zi (P : Prop) [Decidable P] : Int := if P then 1 else 0
/-- one of n is it -/
theorem fs_one (x n : Nat) (c : Int) : fl_sum (fun j => if x = j then c else 0) n = if x < n then c else 0 := by
  rw [← fl_sum_one x c n]
  refine fl_sum_congr n (fun e _ => ?_)
  by_cases z : x = e
  · rw [if_pos z, if_pos z.symm]
  · rw [if_neg z, if_neg (fun q => z q.symm)]
/-- a flow over arcs from t e to y e, both told by place: 240 stream + position, 2880 from, 2881 to -/
def Ph (m : Nat) (r : Nat → Int) (t y : Nat → Nat) (χ : Nat → Nat → Int) : Int := fl_sum (fun e => r e * χ (t e) (y e)) m
section
variable {m : Nat} {r : Nat → Int} {t y : Nat → Nat}
theorem Ph_add (χ ψ : Nat → Nat → Int) : Ph m r t y (fun a b => χ a b + ψ a b) = Ph m r t y χ + Ph m r t y ψ := by
  unfold Ph
  rw [← fl_sum_add]
  exact fl_sum_congr m (fun e _ => Int.mul_add _ _ _)
theorem Ph_sub (χ ψ : Nat → Nat → Int) : Ph m r t y (fun a b => χ a b - ψ a b) = Ph m r t y χ - Ph m r t y ψ := by
  unfold Ph
  rw [← fl_sum_sub]
  exact fl_sum_congr m (fun e _ => Int.mul_sub _ _ _)
theorem Ph_c {χ ψ : Nat → Nat → Int} (h : ∀ e, e < m → χ (t e) (y e) = ψ (t e) (y e)) : Ph m r t y χ = Ph m r t y ψ := fl_sum_congr m (fun e he => by rw [h e he])
theorem Ph_le (r0 : ∀ e, e < m → 0 ≤ r e) {χ ψ : Nat → Nat → Int} (h : ∀ e, e < m → χ (t e) (y e) ≤ ψ (t e) (y e)) : Ph m r t y χ ≤ Ph m r t y ψ := fl_sum_le m (fun e he => Int.mul_le_mul_of_nonneg_left (h e he) (r0 e he))
theorem Ph_nn (r0 : ∀ e, e < m → 0 ≤ r e) {χ : Nat → Nat → Int} (h : ∀ e, e < m → 0 ≤ χ (t e) (y e)) : 0 ≤ Ph m r t y χ := fs_nn m (fun e he => Int.mul_nonneg (r0 e he) (h e he))
theorem Ph_0 {χ : Nat → Nat → Int} (h : ∀ e, e < m → χ (t e) (y e) = 0) : Ph m r t y χ = 0 := fs_0 m (fun e he => by rw [h e he, Int.mul_zero])
theorem Ph_fs (χ : Nat → Nat → Nat → Int) : ∀ n, fl_sum (fun j => Ph m r t y (χ j)) n = Ph m r t y (fun a b => fl_sum (fun j => χ j a b) n)
  | 0 => by
    show 0 = fl_sum (fun e => r e * 0) m
    rw [fs_0 m (fun e _ => Int.mul_zero _)]
  | n + 1 => by
    show fl_sum (fun j => Ph m r t y (χ j)) n + Ph m r t y (χ n) = Ph m r t y (fun a b => fl_sum (fun j => χ j a b) n + χ n a b)
    rw [Ph_add, Ph_fs χ n]
end
/-- what an arc may be -/
def ty_ok (hot : Nat → Bool) (may : Nat → Nat → Prop) (M Q a b : Nat) : Prop := (a = 2880 ∧ b < 2880 ∧ hot (b / 240) ∧ b / 240 < M ∧ b % 240 < Q) ∨ (a < 2880 ∧ b = 2881 ∧ ¬ hot (a / 240) ∧ a / 240 < M ∧ a % 240 < Q) ∨ (a < 2880 ∧ b < 2880 ∧ hot (a / 240) ∧ a / 240 = b / 240 ∧ a / 240 < M ∧ a % 240 < b % 240 ∧ b % 240 < Q) ∨ (a < 2880 ∧ b < 2880 ∧ hot (a / 240) ∧ ¬ hot (b / 240) ∧ may (a / 240) (b / 240) ∧ (a / 240 < M ∧ b / 240 < M) ∧ a % 240 ≤ b % 240 ∧ b % 240 < Q) ∨ (2880 ≤ a ∧ 2880 ≤ b)
/-- a plan -/
def pn (hot : Nat → Bool) (may : Nat → Nat → Prop) (M Q : Nat) (S E K : Nat → Int) (X : Nat → Nat → Int) : Prop := (∀ c, 0 ≤ S c ∧ 0 ≤ E c ∧ 0 ≤ K c) ∧ (∀ j c, 0 ≤ X j c) ∧ (∀ i p, i < M → p < Q → ¬ hot i → fl_sum (fun j => X j (240 * i + p)) M = E (240 * i + p)) ∧ (∀ j p, j < M → p < Q → hot j → K (240 * j + p) = (if p = 0 then 0 else K (240 * j + (p - 1))) + S (240 * j + p) - fl_sum (fun i => if hot i then 0 else X j (240 * i + p)) M) ∧ (∀ j, j < M → hot j → 0 < Q → K (240 * j + (Q - 1)) = 0) ∧ (∀ j i p, i < M → p < Q → ¬ hot i → ¬ (hot j ∧ may j i) → X j (240 * i + p) = 0) ∧ (∀ i p, i < M → p < Q → (hot i → E (240 * i + p) = 0) ∧ (¬ hot i → S (240 * i + p) = 0))
section
variable {hot : Nat → Bool} {may : Nat → Nat → Prop} {M Q m : Nat} {r : Nat → Int} {t y : Nat → Nat}
def fS (m : Nat) (r : Nat → Int) (t y : Nat → Nat) (c : Nat) : Int := Ph m r t y (fun a b => zi (a = 2880 ∧ b = c ∧ b < 2880))
def fE (m : Nat) (r : Nat → Int) (t y : Nat → Nat) (c : Nat) : Int := Ph m r t y (fun a b => zi (b = 2881 ∧ a = c ∧ a < 2880))
def fX (hot : Nat → Bool) (m : Nat) (r : Nat → Int) (t y : Nat → Nat) (j c : Nat) : Int := Ph m r t y (fun a b => zi (a < 2880 ∧ a / 240 = j ∧ b = c ∧ b < 2880 ∧ ¬ hot (b / 240)))
def kX (hot : Nat → Bool) (j p a b : Nat) : Int := zi (a = 2880 ∧ b < 2880 ∧ b / 240 = j ∧ b % 240 ≤ p) - zi (a < 2880 ∧ b < 2880 ∧ a / 240 = j ∧ ¬ hot (b / 240) ∧ b % 240 ≤ p)
def fK (hot : Nat → Bool) (m : Nat) (r : Nat → Int) (t y : Nat → Nat) (c : Nat) : Int := if hot (c / 240) then Ph m r t y (kX hot (c / 240) (c % 240)) else 0
theorem pl_of (hM : M ≤ 12) (hQ : Q ≤ 240) (ty : ∀ e, e < m → ty_ok hot may M Q (t e) (y e)) (r0 : ∀ e, e < m → 0 ≤ r e) (cv : ∀ π : Nat → Int, π 2880 = 0 → π 2881 = 0 → (∀ v, 2880 ≤ v → π v = 0) → Ph m r t y (fun a b => π b - π a) = 0) : pn hot may M Q (fS m r t y) (fE m r t y) (fK hot m r t y) (fX hot m r t y) := by
  have zin : ∀ (P : Prop) [Decidable P], 0 ≤ zi P := fun P _ => by
    unfold zi
    split <;> decide
  have kge : ∀ j p, hot j → 0 ≤ Ph m r t y (kX hot j p) := by
    intro j p hj
    rw [← cv (fun v => zi (v < 2880 ∧ v / 240 = j ∧ v % 240 ≤ p)) (if_neg (by omega)) (if_neg (by omega)) (fun v hv2 => if_neg (by omega))]
    refine Ph_le r0 (fun e he => ?_)
    unfold kX zi
    have q := ty e he
    generalize t e = a at *
    generalize y e = b at *
    rcases q with ⟨q1, q2, q3, q4, q5⟩ | ⟨q1, q2, q3, q4, q5⟩ | ⟨q1, q2, q3, q4, q5, q6, q7⟩ | ⟨q1, q2, q3, q4, q5, q6, q7, q8⟩ | ⟨q1, q2⟩
    · rw [if_neg (show ¬ (a < 2880 ∧ a / 240 = j ∧ a % 240 ≤ p) by omega), if_neg (show ¬ (a < 2880 ∧ b < 2880 ∧ a / 240 = j ∧ ¬ hot (b / 240) ∧ b % 240 ≤ p) from fun h => by omega)]
      split <;> split <;> omega
    · have ne : ¬ a / 240 = j := fun h => q3 (by rw [h]; exact hj)
      rw [if_neg (show ¬ (b < 2880 ∧ b / 240 = j ∧ b % 240 ≤ p) by omega), if_neg (show ¬ (a < 2880 ∧ a / 240 = j ∧ a % 240 ≤ p) by omega), if_neg (show ¬ (a = 2880 ∧ b < 2880 ∧ b / 240 = j ∧ b % 240 ≤ p) by omega), if_neg (show ¬ (a < 2880 ∧ b < 2880 ∧ a / 240 = j ∧ ¬ hot (b / 240) ∧ b % 240 ≤ p) from fun h => by omega)]
      decide
    · have hb : hot (b / 240) := by rw [← q4]; exact q3
      rw [if_neg (show ¬ (a = 2880 ∧ b < 2880 ∧ b / 240 = j ∧ b % 240 ≤ p) by omega), if_neg (show ¬ (a < 2880 ∧ b < 2880 ∧ a / 240 = j ∧ ¬ hot (b / 240) ∧ b % 240 ≤ p) from fun h => h.2.2.2.1 hb)]
      split <;> split <;> omega
    · have ne : ¬ b / 240 = j := fun h => q4 (by rw [h]; exact hj)
      rw [if_neg (show ¬ (b < 2880 ∧ b / 240 = j ∧ b % 240 ≤ p) by omega), if_neg (show ¬ (a = 2880 ∧ b < 2880 ∧ b / 240 = j ∧ b % 240 ≤ p) by omega)]
      by_cases z : a < 2880 ∧ b < 2880 ∧ a / 240 = j ∧ ¬ hot (b / 240) ∧ b % 240 ≤ p
      · rw [if_pos z, if_pos (show a < 2880 ∧ a / 240 = j ∧ a % 240 ≤ p by omega)]
        decide
      · rw [if_neg z]
        split <;> decide
    · rw [if_neg (show ¬ (b < 2880 ∧ b / 240 = j ∧ b % 240 ≤ p) by omega), if_neg (show ¬ (a < 2880 ∧ a / 240 = j ∧ a % 240 ≤ p) by omega), if_neg (show ¬ (a = 2880 ∧ b < 2880 ∧ b / 240 = j ∧ b % 240 ≤ p) by omega), if_neg (show ¬ (a < 2880 ∧ b < 2880 ∧ a / 240 = j ∧ ¬ hot (b / 240) ∧ b % 240 ≤ p) from fun h => by omega)]
      decide
  refine ⟨fun c => ⟨Ph_nn r0 (fun _ _ => zin _), Ph_nn r0 (fun _ _ => zin _), ?_⟩, fun j c => Ph_nn r0 (fun _ _ => zin _), fun i p hi hp hn => ?_, fun j p hj hp hh => ?_, fun j hj hh hq => ?_, fun j i p hi hp hn hm => ?_, fun i p hi hp => ⟨fun hh => ?_, fun hn => ?_⟩⟩
  · unfold fK
    split
    · rename_i h
      exact kge _ _ h
    · exact Int.le_refl _
  · have ec : (240 * i + p) / 240 = i := by omega
    unfold fX
    rw [Ph_fs]
    have h0 := cv (fun v => zi (v = 240 * i + p ∧ v < 2880)) (if_neg (by omega)) (if_neg (by omega)) (fun v hv2 => if_neg (by omega))
    rw [Ph_sub (fun a b => zi (b = 240 * i + p ∧ b < 2880)) (fun a b => zi (a = 240 * i + p ∧ a < 2880))] at h0
    have h1 : Ph m r t y (fun a b => fl_sum (fun j => zi (a < 2880 ∧ a / 240 = j ∧ b = 240 * i + p ∧ b < 2880 ∧ ¬ hot (b / 240))) M) = Ph m r t y (fun a b => zi (b = 240 * i + p ∧ b < 2880)) := by
      refine Ph_c (fun e he => ?_)
      have q := ty e he
      generalize t e = a at *
      generalize y e = b at *
      show fl_sum (fun j => zi (a < 2880 ∧ a / 240 = j ∧ b = 240 * i + p ∧ b < 2880 ∧ ¬ hot (b / 240))) M = zi (b = 240 * i + p ∧ b < 2880)
      by_cases z : b = 240 * i + p ∧ b < 2880
      · have nb : ¬ hot (b / 240) := by rw [z.1, ec]; exact hn
        have al : a < 2880 ∧ a / 240 < M := by
          rcases q with ⟨q1, q2, q3, q4, q5⟩ | ⟨q1, q2, q3, q4, q5⟩ | ⟨q1, q2, q3, q4, q5, q6, q7⟩ | ⟨q1, q2, q3, q4, q5, q6, q7, q8⟩ | ⟨q1, q2⟩
          · exact absurd q3 nb
          · omega
          · exact absurd (by rw [← q4]; exact q3) nb
          · exact ⟨q1, q6.1⟩
          · omega
        have e1 : fl_sum (fun j => zi (a < 2880 ∧ a / 240 = j ∧ b = 240 * i + p ∧ b < 2880 ∧ ¬ hot (b / 240))) M = fl_sum (fun j => if a / 240 = j then 1 else 0) M := by
          refine fl_sum_congr M (fun j _ => ?_)
          by_cases w : a / 240 = j
          · exact (if_pos ⟨al.1, w, z.1, z.2, nb⟩).trans (if_pos w).symm
          · exact (if_neg (fun h => w h.2.1)).trans (if_neg w).symm
        rw [e1, fs_one, if_pos al.2]
        exact (if_pos z).symm
      · rw [show zi (b = 240 * i + p ∧ b < 2880) = 0 from if_neg z]
        exact fs_0 M (fun j _ => if_neg (fun h => z ⟨h.2.2.1, h.2.2.2.1⟩))
    have h2 : fE m r t y (240 * i + p) = Ph m r t y (fun a b => zi (a = 240 * i + p ∧ a < 2880)) := by
      refine Ph_c (fun e he => ?_)
      have q := ty e he
      generalize t e = a at *
      generalize y e = b at *
      show zi (b = 2881 ∧ a = 240 * i + p ∧ a < 2880) = zi (a = 240 * i + p ∧ a < 2880)
      by_cases z : a = 240 * i + p ∧ a < 2880
      · have na : ¬ hot (a / 240) := by rw [z.1, ec]; exact hn
        have eb : b = 2881 := by
          rcases q with ⟨q1, q2, q3, q4, q5⟩ | ⟨q1, q2, q3, q4, q5⟩ | ⟨q1, q2, q3, q4, q5, q6, q7⟩ | ⟨q1, q2, q3, q4, q5, q6, q7, q8⟩ | ⟨q1, q2⟩
          · omega
          · exact q2
          · exact absurd q3 na
          · exact absurd q3 na
          · omega
        exact (if_pos ⟨eb, z⟩).trans (if_pos z).symm
      · exact (if_neg (fun h => z h.2)).trans (if_neg z).symm
    rw [h1, h2]
    omega
  · have ec : (240 * j + p) / 240 = j := by omega
    have em : (240 * j + p) % 240 = p := by omega
    have e0 : fK hot m r t y (240 * j + p) = Ph m r t y (kX hot j p) := by
      unfold fK
      rw [ec, em, if_pos hh]
    have e1 : (if p = 0 then 0 else fK hot m r t y (240 * j + (p - 1))) = Ph m r t y (fun a b => zi (a = 2880 ∧ b < 2880 ∧ b / 240 = j ∧ b % 240 < p) - zi (a < 2880 ∧ b < 2880 ∧ a / 240 = j ∧ ¬ hot (b / 240) ∧ b % 240 < p)) := by
      by_cases z : p = 0
      · rw [if_pos z]
        symm
        refine Ph_0 (fun e _ => ?_)
        show zi (t e = 2880 ∧ y e < 2880 ∧ y e / 240 = j ∧ y e % 240 < p) - zi (t e < 2880 ∧ y e < 2880 ∧ t e / 240 = j ∧ ¬ hot (y e / 240) ∧ y e % 240 < p) = 0
        rw [show zi (t e = 2880 ∧ y e < 2880 ∧ y e / 240 = j ∧ y e % 240 < p) = 0 from if_neg (by omega), show zi (t e < 2880 ∧ y e < 2880 ∧ t e / 240 = j ∧ ¬ hot (y e / 240) ∧ y e % 240 < p) = 0 from if_neg (fun h => by omega), Int.sub_zero]
      · rw [if_neg z]
        unfold fK
        rw [show (240 * j + (p - 1)) / 240 = j by omega, show (240 * j + (p - 1)) % 240 = p - 1 by omega, if_pos hh]
        refine Ph_c (fun e _ => ?_)
        unfold kX
        have f1 : zi (t e = 2880 ∧ y e < 2880 ∧ y e / 240 = j ∧ y e % 240 ≤ p - 1) = zi (t e = 2880 ∧ y e < 2880 ∧ y e / 240 = j ∧ y e % 240 < p) := by
          unfold zi
          split <;> split <;> omega
        have f2 : zi (t e < 2880 ∧ y e < 2880 ∧ t e / 240 = j ∧ ¬ hot (y e / 240) ∧ y e % 240 ≤ p - 1) = zi (t e < 2880 ∧ y e < 2880 ∧ t e / 240 = j ∧ ¬ hot (y e / 240) ∧ y e % 240 < p) := by
          by_cases w : t e < 2880 ∧ y e < 2880 ∧ t e / 240 = j ∧ ¬ hot (y e / 240) ∧ y e % 240 < p
          · exact (if_pos ⟨w.1, w.2.1, w.2.2.1, w.2.2.2.1, by omega⟩).trans (if_pos w).symm
          · exact (if_neg (fun h => w ⟨h.1, h.2.1, h.2.2.1, h.2.2.2.1, by omega⟩)).trans (if_neg w).symm
        rw [f1, f2]
    have e2 : fl_sum (fun i => if hot i then 0 else fX hot m r t y j (240 * i + p)) M = Ph m r t y (fun a b => zi (a < 2880 ∧ b < 2880 ∧ a / 240 = j ∧ ¬ hot (b / 240) ∧ b % 240 = p)) := by
      have f0 : fl_sum (fun i => if hot i then 0 else fX hot m r t y j (240 * i + p)) M = fl_sum (fun i => Ph m r t y (fun a b => zi (a < 2880 ∧ b < 2880 ∧ a / 240 = j ∧ ¬ hot (b / 240) ∧ b % 240 = p ∧ b / 240 = i))) M := by
        refine fl_sum_congr M (fun i _ => ?_)
        by_cases w : hot i
        · rw [if_pos w]
          symm
          exact Ph_0 (fun e _ => if_neg (fun h => h.2.2.2.1 (by rw [h.2.2.2.2.2]; exact w)))
        · rw [if_neg w]
          refine Ph_c (fun e _ => ?_)
          by_cases u : t e < 2880 ∧ y e < 2880 ∧ t e / 240 = j ∧ ¬ hot (y e / 240) ∧ y e % 240 = p ∧ y e / 240 = i
          · exact (if_pos ⟨u.1, u.2.2.1, by omega, u.2.1, u.2.2.2.1⟩).trans (if_pos u).symm
          · exact (if_neg (fun h => u ⟨h.1, h.2.2.2.1, h.2.1, h.2.2.2.2, by omega, by omega⟩)).trans (if_neg u).symm
      rw [f0, Ph_fs]
      refine Ph_c (fun e he => ?_)
      have q := ty e he
      generalize t e = a at *
      generalize y e = b at *
      show fl_sum (fun i => zi (a < 2880 ∧ b < 2880 ∧ a / 240 = j ∧ ¬ hot (b / 240) ∧ b % 240 = p ∧ b / 240 = i)) M = zi (a < 2880 ∧ b < 2880 ∧ a / 240 = j ∧ ¬ hot (b / 240) ∧ b % 240 = p)
      by_cases z : a < 2880 ∧ b < 2880 ∧ a / 240 = j ∧ ¬ hot (b / 240) ∧ b % 240 = p
      · have bl : b / 240 < M := by
          rcases q with ⟨q1, q2, q3, q4, q5⟩ | ⟨q1, q2, q3, q4, q5⟩ | ⟨q1, q2, q3, q4, q5, q6, q7⟩ | ⟨q1, q2, q3, q4, q5, q6, q7, q8⟩ | ⟨q1, q2⟩
          · exact q4
          · omega
          · omega
          · exact q6.2
          · omega
        have f1 : fl_sum (fun i => zi (a < 2880 ∧ b < 2880 ∧ a / 240 = j ∧ ¬ hot (b / 240) ∧ b % 240 = p ∧ b / 240 = i)) M = fl_sum (fun i => if b / 240 = i then 1 else 0) M := by
          refine fl_sum_congr M (fun i _ => ?_)
          by_cases w : b / 240 = i
          · exact (if_pos ⟨z.1, z.2.1, z.2.2.1, z.2.2.2.1, z.2.2.2.2, w⟩).trans (if_pos w).symm
          · exact (if_neg (fun h => w h.2.2.2.2.2)).trans (if_neg w).symm
        rw [f1, fs_one, if_pos bl]
        exact (if_pos z).symm
      · rw [show zi (a < 2880 ∧ b < 2880 ∧ a / 240 = j ∧ ¬ hot (b / 240) ∧ b % 240 = p) = 0 from if_neg z]
        exact fs_0 M (fun i _ => if_neg (fun h => z ⟨h.1, h.2.1, h.2.2.1, h.2.2.2.1, h.2.2.2.2.1⟩))
    rw [e0, e1, e2]
    unfold fS
    rw [← Ph_add, ← Ph_sub]
    refine Ph_c (fun e _ => ?_)
    generalize t e = a
    generalize y e = b
    unfold kX
    have g1 : zi (a = 2880 ∧ b < 2880 ∧ b / 240 = j ∧ b % 240 ≤ p) = zi (a = 2880 ∧ b < 2880 ∧ b / 240 = j ∧ b % 240 < p) + zi (a = 2880 ∧ b = 240 * j + p ∧ b < 2880) := by
      unfold zi
      split <;> split <;> split <;> omega
    have g2 : zi (a < 2880 ∧ b < 2880 ∧ a / 240 = j ∧ ¬ hot (b / 240) ∧ b % 240 ≤ p) = zi (a < 2880 ∧ b < 2880 ∧ a / 240 = j ∧ ¬ hot (b / 240) ∧ b % 240 < p) + zi (a < 2880 ∧ b < 2880 ∧ a / 240 = j ∧ ¬ hot (b / 240) ∧ b % 240 = p) := by
      by_cases w : a < 2880 ∧ b < 2880 ∧ a / 240 = j ∧ ¬ hot (b / 240)
      · obtain ⟨w1, w2, w3, w4⟩ := w
        unfold zi
        by_cases v1 : b % 240 < p
        · rw [if_pos ⟨w1, w2, w3, w4, by omega⟩, if_pos ⟨w1, w2, w3, w4, v1⟩, if_neg (fun h => by omega)]
          rfl
        · by_cases v2 : b % 240 = p
          · rw [if_pos ⟨w1, w2, w3, w4, by omega⟩, if_neg (fun h => by omega), if_pos ⟨w1, w2, w3, w4, v2⟩]
            rfl
          · rw [if_neg (fun h => by omega), if_neg (fun h => by omega), if_neg (fun h => by omega)]
            rfl
      · unfold zi
        rw [if_neg (fun h => w ⟨h.1, h.2.1, h.2.2.1, h.2.2.2.1⟩), if_neg (fun h => w ⟨h.1, h.2.1, h.2.2.1, h.2.2.2.1⟩), if_neg (fun h => w ⟨h.1, h.2.1, h.2.2.1, h.2.2.2.1⟩)]
        rfl
    rw [g1, g2]
    omega
  · unfold fK
    rw [show (240 * j + (Q - 1)) / 240 = j by omega, show (240 * j + (Q - 1)) % 240 = Q - 1 by omega, if_pos hh]
    rw [← cv (fun v => zi (v < 2880 ∧ v / 240 = j ∧ v % 240 ≤ Q - 1)) (if_neg (by omega)) (if_neg (by omega)) (fun v hv2 => if_neg (by omega))]
    refine Ph_c (fun e he => ?_)
    unfold kX zi
    have q := ty e he
    generalize t e = a at *
    generalize y e = b at *
    rcases q with ⟨q1, q2, q3, q4, q5⟩ | ⟨q1, q2, q3, q4, q5⟩ | ⟨q1, q2, q3, q4, q5, q6, q7⟩ | ⟨q1, q2, q3, q4, q5, q6, q7, q8⟩ | ⟨q1, q2⟩
    · rw [if_neg (show ¬ (a < 2880 ∧ a / 240 = j ∧ a % 240 ≤ Q - 1) by omega), if_neg (show ¬ (a < 2880 ∧ b < 2880 ∧ a / 240 = j ∧ ¬ hot (b / 240) ∧ b % 240 ≤ Q - 1) from fun h => by omega)]
      split <;> split <;> omega
    · have ne : ¬ a / 240 = j := fun h => q3 (by rw [h]; exact hh)
      rw [if_neg (show ¬ (b < 2880 ∧ b / 240 = j ∧ b % 240 ≤ Q - 1) by omega), if_neg (show ¬ (a < 2880 ∧ a / 240 = j ∧ a % 240 ≤ Q - 1) by omega), if_neg (show ¬ (a = 2880 ∧ b < 2880 ∧ b / 240 = j ∧ b % 240 ≤ Q - 1) by omega), if_neg (show ¬ (a < 2880 ∧ b < 2880 ∧ a / 240 = j ∧ ¬ hot (b / 240) ∧ b % 240 ≤ Q - 1) from fun h => by omega)]
    · have hb : hot (b / 240) := by rw [← q4]; exact q3
      rw [if_neg (show ¬ (a = 2880 ∧ b < 2880 ∧ b / 240 = j ∧ b % 240 ≤ Q - 1) by omega), if_neg (show ¬ (a < 2880 ∧ b < 2880 ∧ a / 240 = j ∧ ¬ hot (b / 240) ∧ b % 240 ≤ Q - 1) from fun h => h.2.2.2.1 hb)]
      split <;> split <;> omega
    · have ne : ¬ b / 240 = j := fun h => q4 (by rw [h]; exact hh)
      rw [if_neg (show ¬ (b < 2880 ∧ b / 240 = j ∧ b % 240 ≤ Q - 1) by omega), if_neg (show ¬ (a = 2880 ∧ b < 2880 ∧ b / 240 = j ∧ b % 240 ≤ Q - 1) by omega)]
      by_cases z : a < 2880 ∧ b < 2880 ∧ a / 240 = j ∧ ¬ hot (b / 240) ∧ b % 240 ≤ Q - 1
      · rw [if_pos z, if_pos (show a < 2880 ∧ a / 240 = j ∧ a % 240 ≤ Q - 1 by omega)]
      · rw [if_neg z, if_neg (show ¬ (a < 2880 ∧ a / 240 = j ∧ a % 240 ≤ Q - 1) from fun h => z ⟨q1, q2, h.2.1, q4, by omega⟩)]
    · rw [if_neg (show ¬ (b < 2880 ∧ b / 240 = j ∧ b % 240 ≤ Q - 1) by omega), if_neg (show ¬ (a < 2880 ∧ a / 240 = j ∧ a % 240 ≤ Q - 1) by omega), if_neg (show ¬ (a = 2880 ∧ b < 2880 ∧ b / 240 = j ∧ b % 240 ≤ Q - 1) by omega), if_neg (show ¬ (a < 2880 ∧ b < 2880 ∧ a / 240 = j ∧ ¬ hot (b / 240) ∧ b % 240 ≤ Q - 1) from fun h => by omega)]
  · refine Ph_0 (fun e he => if_neg (fun h => ?_))
    obtain ⟨h1, h2, h3, h4, h5⟩ := h
    rcases ty e he with ⟨q1, q2, q3, q4, q5⟩ | ⟨q1, q2, q3, q4, q5⟩ | ⟨q1, q2, q3, q4, q5, q6, q7⟩ | ⟨q1, q2, q3, q4, q5, q6, q7, q8⟩ | ⟨q1, q2⟩
    · omega
    · omega
    · exact h5 (by rw [← q4]; exact q3)
    · rw [h2] at q3 q5
      rw [h3, show (240 * i + p) / 240 = i by omega] at q5
      exact hm ⟨q3, q5⟩
    · omega
  · refine Ph_0 (fun e he => if_neg (fun h => ?_))
    obtain ⟨h1, h2, h3⟩ := h
    have hot_t : hot (t e / 240) := by
      rw [h2, show (240 * i + p) / 240 = i by omega]
      exact hh
    rcases ty e he with ⟨q1, q2, q3, q4, q5⟩ | ⟨q1, q2, q3, q4, q5⟩ | ⟨q1, q2, q3, q4, q5, q6, q7⟩ | ⟨q1, q2, q3, q4, q5, q6, q7, q8⟩ | ⟨q1, q2⟩
    · omega
    · exact q3 hot_t
    · omega
    · omega
    · omega
  · refine Ph_0 (fun e he => if_neg (fun h => ?_))
    obtain ⟨h1, h2, h3⟩ := h
    have nb : ¬ hot (y e / 240) := by
      rw [h2, show (240 * i + p) / 240 = i by omega]
      exact hn
    rcases ty e he with ⟨q1, q2, q3, q4, q5⟩ | ⟨q1, q2, q3, q4, q5⟩ | ⟨q1, q2, q3, q4, q5, q6, q7⟩ | ⟨q1, q2, q3, q4, q5, q6, q7, q8⟩ | ⟨q1, q2⟩
    · exact nb q3
    · omega
    · omega
    · omega
    · omega
end
