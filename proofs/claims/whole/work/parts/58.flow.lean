/-! flows: sums over arcs -/
def fl_sum (g : Nat → Int) : Nat → Int
  | 0 => 0
  | m + 1 => fl_sum g m + g m
theorem fl_sum_congr {g h : Nat → Int} : ∀ m, (∀ e, e < m → g e = h e) → fl_sum g m = fl_sum h m
  | 0, _ => rfl
  | m + 1, e => by
    unfold fl_sum
    rw [fl_sum_congr m (fun i hi => e i (by omega)), e m (by omega)]
theorem fl_sum_add (g h : Nat → Int) : ∀ m, fl_sum (fun e => g e + h e) m = fl_sum g m + fl_sum h m
  | 0 => rfl
  | m + 1 => by
    unfold fl_sum
    rw [fl_sum_add g h m]
    omega
theorem fl_sum_one (e0 : Nat) (x : Int) : ∀ m, fl_sum (fun e => if e = e0 then x else 0) m = if e0 < m then x else 0
  | 0 => rfl
  | m + 1 => by
    unfold fl_sum
    rw [fl_sum_one e0 x m]
    by_cases h : m = e0
    · rw [if_pos h, if_neg (by omega), if_pos (by omega)]
      omega
    · rw [if_neg h]
      by_cases h2 : e0 < m
      · rw [if_pos h2, if_pos (by omega)]
        omega
      · rw [if_neg h2, if_neg (by omega)]
        omega
theorem fl_sum_le {g h : Nat → Int} : ∀ m, (∀ e, e < m → g e ≤ h e) → fl_sum g m ≤ fl_sum h m
  | 0, _ => Int.le_refl 0
  | m + 1, e => by
    unfold fl_sum
    have := fl_sum_le m (fun i hi => e i (by omega))
    have := e m (by omega)
    omega
theorem fl_sum_mul (c : Int) (g : Nat → Int) : ∀ m, fl_sum (fun e => c * g e) m = c * fl_sum g m
  | 0 => by simp [fl_sum]
  | m + 1 => by
    unfold fl_sum
    rw [fl_sum_mul c g m, Int.mul_add]
theorem fl_sum_sub (g h : Nat → Int) : ∀ m, fl_sum (fun e => g e - h e) m = fl_sum g m - fl_sum h m
  | 0 => rfl
  | m + 1 => by
    unfold fl_sum
    rw [fl_sum_sub g h m]
    omega
theorem fl_x0 (e : Nat) : (2 * e) ^^^ 1 = 2 * e + 1 := by
  apply Nat.eq_of_testBit_eq
  intro i
  rw [Nat.testBit_xor]
  cases i with
  | zero => simp [Nat.testBit_zero, Nat.mul_mod_right, Nat.add_mod]
  | succ i => simp [Nat.testBit_succ, Nat.mul_add_div]
theorem fl_x1 (e : Nat) : (2 * e + 1) ^^^ 1 = 2 * e := by
  rw [← fl_x0 e, Nat.xor_assoc, Nat.xor_self, Nat.xor_zero]
/-- pairs of arcs: tails, heads, costs -/
def fl_pair (m : Nat) (T Y : Nat → Nat) (C : Nat → Int) : Prop := ∀ e, e < m → T (2 * e + 1) = Y (2 * e) ∧ Y (2 * e + 1) = T (2 * e) ∧ C (2 * e + 1) = -C (2 * e)
def fl_ok (m : Nat) (cap r : Nat → Int) : Prop := ∀ e, e < m → 0 ≤ r (2 * e) ∧ 0 ≤ r (2 * e + 1) ∧ r (2 * e) + r (2 * e + 1) = cap e
def fl_wt (m : Nat) (w r : Nat → Int) : Int := fl_sum (fun e => r (2 * e + 1) * w e) m
def fl_div (m : Nat) (T Y : Nat → Nat) (r : Nat → Int) (s t : Nat) (D : Int) : Prop := ∀ p : Nat → Int, fl_wt m (fun e => p (Y (2 * e)) - p (T (2 * e))) r = D * (p t - p s)
def fl_cost (m : Nat) (C r : Nat → Int) : Int := fl_wt m (fun e => C (2 * e)) r
def fl_pv (m : Nat) (T Y : Nat → Nat) (C r p : Nat → Int) : Prop := ∀ i, i < 2 * m → ¬ r i = 0 → p (Y i) ≤ p (T i) + C i
def fl_one (r : Nat → Int) (δ : Int) (i : Nat) : Nat → Int := fun j => if j = i then r i - δ else if j = i ^^^ 1 then r j + δ else r j
def fl_up (δ : Int) : (Nat → Int) → List Nat → Nat → Int
  | r, [] => r
  | r, i :: l => fl_up δ (fl_one r δ i) l
def fl_pw (w : Nat → Int) (i : Nat) : Int := if i % 2 = 0 then w (i / 2) else -w (i / 2)
def fl_ls (w : Nat → Int) : List Nat → Int
  | [] => 0
  | i :: l => w i + fl_ls w l
theorem fl_one_wt {m : Nat} (w r : Nat → Int) (δ : Int) {i : Nat} (hi : i < 2 * m) : fl_wt m w (fl_one r δ i) = fl_wt m w r + δ * fl_pw w i := by
  unfold fl_wt fl_pw
  rcases Nat.mod_two_eq_zero_or_one i with h | h
  · obtain ⟨e0, rfl⟩ : ∃ e0, i = 2 * e0 := ⟨i / 2, by omega⟩
    rw [if_pos h, show 2 * e0 / 2 = e0 by omega]
    have e1 : ∀ e, e < m → fl_one r δ (2 * e0) (2 * e + 1) * w e = r (2 * e + 1) * w e + (if e = e0 then δ * w e0 else 0) := by
      intro e _
      unfold fl_one
      rw [fl_x0, if_neg (by omega)]
      by_cases q : e = e0
      · subst q
        rw [if_pos rfl, if_pos rfl, Int.add_mul]
      · rw [if_neg (by omega), if_neg q, Int.add_zero]
    rw [fl_sum_congr m e1, fl_sum_add, fl_sum_one, if_pos (by omega)]
  · obtain ⟨e0, rfl⟩ : ∃ e0, i = 2 * e0 + 1 := ⟨i / 2, by omega⟩
    rw [if_neg (by omega), show (2 * e0 + 1) / 2 = e0 by omega]
    have e1 : ∀ e, e < m → fl_one r δ (2 * e0 + 1) (2 * e + 1) * w e = r (2 * e + 1) * w e + (if e = e0 then δ * -w e0 else 0) := by
      intro e _
      unfold fl_one
      rw [fl_x1]
      by_cases q : e = e0
      · subst q
        rw [if_pos rfl, if_pos rfl, Int.sub_mul, Int.mul_neg]
        omega
      · rw [if_neg (by omega), if_neg (by omega), if_neg q, Int.add_zero]
    rw [fl_sum_congr m e1, fl_sum_add, fl_sum_one, if_pos (by omega)]
theorem fl_up_wt {m : Nat} (w : Nat → Int) (δ : Int) : ∀ (l : List Nat) (r : Nat → Int), (∀ i, i ∈ l → i < 2 * m) → fl_wt m w (fl_up δ r l) = fl_wt m w r + δ * fl_ls (fl_pw w) l
  | [], r, _ => by
    show fl_wt m w r = _
    rw [show fl_ls (fl_pw w) [] = 0 from rfl, Int.mul_zero, Int.add_zero]
  | i :: l, r, h => by
    show fl_wt m w (fl_up δ (fl_one r δ i) l) = _
    rw [fl_up_wt w δ l _ (fun j hj => h j (List.mem_cons_of_mem _ hj)), fl_one_wt w r δ (h i (List.mem_cons_self ..))]
    show _ = _ + δ * (fl_pw w i + fl_ls (fl_pw w) l)
    rw [Int.mul_add]
    omega
section
variable {m : Nat} {T Y : Nat → Nat} {C : Nat → Int} {cap r : Nat → Int}
theorem fl_pw_p (hp : fl_pair m T Y C) (p : Nat → Int) {i : Nat} (hi : i < 2 * m) : fl_pw (fun e => p (Y (2 * e)) - p (T (2 * e))) i = p (Y i) - p (T i) := by
  unfold fl_pw
  rcases Nat.mod_two_eq_zero_or_one i with h | h
  · rw [if_pos h]
    dsimp only
    rw [show 2 * (i / 2) = i by omega]
  · have := hp (i / 2) (by omega)
    rw [show 2 * (i / 2) + 1 = i by omega] at this
    rw [if_neg (by omega), this.1, this.2.1]
    dsimp only
    omega
theorem fl_pw_c (hp : fl_pair m T Y C) {i : Nat} (hi : i < 2 * m) : fl_pw (fun e => C (2 * e)) i = C i := by
  unfold fl_pw
  rcases Nat.mod_two_eq_zero_or_one i with h | h
  · rw [if_pos h]
    dsimp only
    rw [show 2 * (i / 2) = i by omega]
  · have := hp (i / 2) (by omega)
    rw [show 2 * (i / 2) + 1 = i by omega] at this
    rw [if_neg (by omega), this.2.2]
/-- a way back from t to s -/
def fl_way (T Y : Nat → Nat) (s : Nat) : Nat → List Nat → Prop
  | t, [] => t = s
  | t, i :: l => Y i = t ∧ fl_way T Y s (T i) l
theorem fl_way_p (hp : fl_pair m T Y C) (p : Nat → Int) {s : Nat} : ∀ {l : List Nat} {t : Nat}, (∀ i, i ∈ l → i < 2 * m) → fl_way T Y s t l → fl_ls (fl_pw (fun e => p (Y (2 * e)) - p (T (2 * e)))) l = p t - p s
  | [], t, _, h => by
    rw [show t = s from h]
    show (0 : Int) = _
    omega
  | i :: l, t, hl, h => by
    show fl_pw _ i + fl_ls _ l = _
    rw [fl_way_p hp p (fun j hj => hl j (List.mem_cons_of_mem _ hj)) h.2, fl_pw_p hp p (hl i (List.mem_cons_self ..)), h.1]
    omega
theorem fl_way_c (hp : fl_pair m T Y C) (p : Nat → Int) {s : Nat} : ∀ {l : List Nat} {t : Nat}, (∀ i, i ∈ l → i < 2 * m ∧ p (Y i) = p (T i) + C i) → fl_way T Y s t l → fl_ls (fl_pw (fun e => C (2 * e))) l = p t - p s
  | [], t, _, h => by
    rw [show t = s from h]
    show (0 : Int) = _
    omega
  | i :: l, t, hl, h => by
    show fl_pw _ i + fl_ls _ l = _
    have hi := hl i (List.mem_cons_self ..)
    rw [fl_way_c hp p (fun j hj => hl j (List.mem_cons_of_mem _ hj)) h.2, fl_pw_c hp hi.1, ← h.1, hi.2]
    omega
theorem fl_one_ok {δ : Int} (hδ : 0 ≤ δ) {i : Nat} (hi : δ ≤ r i) (ok : fl_ok m cap r) : fl_ok m cap (fl_one r δ i) := by
  intro e he
  obtain ⟨h1, h2, h3⟩ := ok e he
  unfold fl_one
  rcases Nat.mod_two_eq_zero_or_one i with h | h
  · obtain ⟨e0, rfl⟩ : ∃ e0, i = 2 * e0 := ⟨i / 2, by omega⟩
    rw [fl_x0]
    by_cases q : e = e0
    · subst q
      rw [if_pos rfl, if_neg (by omega), if_pos rfl]
      omega
    · rw [if_neg (by omega), if_neg (by omega), if_neg (by omega), if_neg (by omega)]
      exact ⟨h1, h2, h3⟩
  · obtain ⟨e0, rfl⟩ : ∃ e0, i = 2 * e0 + 1 := ⟨i / 2, by omega⟩
    rw [fl_x1]
    by_cases q : e = e0
    · subst q
      rw [if_neg (by omega), if_pos rfl, if_pos rfl]
      omega
    · rw [if_neg (by omega), if_neg (by omega), if_neg (by omega), if_neg (by omega)]
      exact ⟨h1, h2, h3⟩
theorem fl_one_ge {δ : Int} (hδ : 0 ≤ δ) {i j : Nat} (h : j ≠ i) : r j ≤ fl_one r δ i j := by
  unfold fl_one
  rw [if_neg h]
  split <;> omega
theorem fl_up_ok {δ : Int} (hδ : 0 ≤ δ) : ∀ (l : List Nat) {r : Nat → Int}, l.Nodup → (∀ i, i ∈ l → δ ≤ r i) → fl_ok m cap r → fl_ok m cap (fl_up δ r l)
  | [], _, _, _, ok => ok
  | i :: l, r, hn, hl, ok => by
    obtain ⟨n1, n2⟩ := List.nodup_cons.mp hn
    refine fl_up_ok hδ l n2 (fun j hj => ?_) (fl_one_ok hδ (hl i (List.mem_cons_self ..)) ok)
    have := hl j (List.mem_cons_of_mem _ hj)
    have := fl_one_ge (r := r) hδ (fun q : j = i => n1 (q ▸ hj))
    omega
theorem fl_one_nz {δ : Int} {i j : Nat} (hi : ¬ r i = 0) (h : ¬ fl_one r δ i j = 0) : ¬ r j = 0 ∨ j = i ^^^ 1 := by
  unfold fl_one at h
  by_cases q : j = i
  · subst q
    exact Or.inl hi
  · rw [if_neg q] at h
    by_cases q2 : j = i ^^^ 1
    · exact Or.inr q2
    · rw [if_neg q2] at h
      exact Or.inl h
theorem fl_pv_x (hp : fl_pair m T Y C) {p : Nat → Int} {i j : Nat} (hi : i < 2 * m) (ht : p (Y i) = p (T i) + C i) (hj : j = i ^^^ 1) : p (Y j) ≤ p (T j) + C j := by
  subst hj
  rcases Nat.mod_two_eq_zero_or_one i with h | h
  · obtain ⟨e0, rfl⟩ : ∃ e0, i = 2 * e0 := ⟨i / 2, by omega⟩
    have := hp e0 (by omega)
    rw [fl_x0, this.1, this.2.1, this.2.2]
    omega
  · obtain ⟨e0, rfl⟩ : ∃ e0, i = 2 * e0 + 1 := ⟨i / 2, by omega⟩
    have := hp e0 (by omega)
    rw [this.1, this.2.1, this.2.2] at ht
    rw [fl_x1]
    omega
theorem fl_up_pv (hp : fl_pair m T Y C) {δ : Int} (hδ : 0 < δ) {p : Nat → Int} : ∀ (l : List Nat) {r : Nat → Int}, l.Nodup → (∀ i, i ∈ l → i < 2 * m ∧ δ ≤ r i ∧ p (Y i) = p (T i) + C i) → fl_pv m T Y C r p → fl_pv m T Y C (fl_up δ r l) p
  | [], _, _, _, pv => pv
  | i :: l, r, hn, hl, pv => by
    obtain ⟨n1, n2⟩ := List.nodup_cons.mp hn
    obtain ⟨h1, h2, h3⟩ := hl i (List.mem_cons_self ..)
    refine fl_up_pv hp hδ l n2 (fun j hj => ?_) (fun j hj hr => ?_)
    · obtain ⟨g1, g2, g3⟩ := hl j (List.mem_cons_of_mem _ hj)
      have := fl_one_ge (r := r) (Int.le_of_lt hδ) (fun q : j = i => n1 (q ▸ hj))
      exact ⟨g1, by omega, g3⟩
    · rcases fl_one_nz (by omega) hr with q | q
      · exact pv j hj q
      · exact fl_pv_x hp h1 h3 q
/-- no flow is cheaper where a potential holds -/
theorem fl_opt (hp : fl_pair m T Y C) {p r2 : Nat → Int} {s t : Nat} {D D2 : Int} (ok : fl_ok m cap r) (ok2 : fl_ok m cap r2) (dv : fl_div m T Y r s t D) (dv2 : fl_div m T Y r2 s t D2) (pv : fl_pv m T Y C r p) (h : D = D2 ∨ p s = p t) : fl_cost m C r ≤ fl_cost m C r2 := by
  have e1 := dv p
  have e2 := dv2 p
  have e3 : D * (p t - p s) = D2 * (p t - p s) := by
    rcases h with h | h
    · rw [h]
    · rw [h, Int.sub_self, Int.mul_zero, Int.mul_zero]
  have key : fl_sum (fun e => r (2 * e + 1) * C (2 * e) - r (2 * e + 1) * (p (Y (2 * e)) - p (T (2 * e)))) m ≤ fl_sum (fun e => r2 (2 * e + 1) * C (2 * e) - r2 (2 * e + 1) * (p (Y (2 * e)) - p (T (2 * e)))) m := by
    refine fl_sum_le m (fun e he => ?_)
    obtain ⟨a1, a2, a3⟩ := ok e he
    obtain ⟨b1, b2, b3⟩ := ok2 e he
    obtain ⟨q1, q2, q3⟩ := hp e he
    have f1 : 0 ≤ (r2 (2 * e + 1) - r (2 * e + 1)) * (C (2 * e) - (p (Y (2 * e)) - p (T (2 * e)))) := by
      by_cases z0 : r (2 * e + 1) = 0
      · by_cases z1 : r (2 * e) = 0
        · have : r2 (2 * e + 1) - r (2 * e + 1) = 0 := by omega
          rw [this, Int.zero_mul]
          exact Int.le_refl 0
        · have := pv (2 * e) (by omega) z1
          exact Int.mul_nonneg (by omega) (by omega)
      · have g := pv (2 * e + 1) (by omega) z0
        rw [q1, q2, q3] at g
        by_cases z1 : r (2 * e) = 0
        · exact Int.mul_nonneg_of_nonpos_of_nonpos (by omega) (by omega)
        · have g2 := pv (2 * e) (by omega) z1
          have : C (2 * e) - (p (Y (2 * e)) - p (T (2 * e))) = 0 := by omega
          rw [this, Int.mul_zero]
          exact Int.le_refl 0
    generalize p (Y (2 * e)) - p (T (2 * e)) = y at f1 ⊢
    rw [Int.sub_mul, Int.mul_sub, Int.mul_sub] at f1
    omega
  rw [fl_sum_sub, fl_sum_sub] at key
  unfold fl_cost
  have c1 : fl_wt m (fun e => p (Y (2 * e)) - p (T (2 * e))) r = fl_sum (fun e => r (2 * e + 1) * (p (Y (2 * e)) - p (T (2 * e)))) m := rfl
  have c2 : fl_wt m (fun e => p (Y (2 * e)) - p (T (2 * e))) r2 = fl_sum (fun e => r2 (2 * e + 1) * (p (Y (2 * e)) - p (T (2 * e)))) m := rfl
  have d1 : fl_wt m (fun e => C (2 * e)) r = fl_sum (fun e => r (2 * e + 1) * C (2 * e)) m := rfl
  have d2 : fl_wt m (fun e => C (2 * e)) r2 = fl_sum (fun e => r2 (2 * e + 1) * C (2 * e)) m := rfl
  rw [d1, d2]
  rw [c1] at e1
  rw [c2] at e2
  omega
end
