/-! most heaps: sums over masks, pure -/
theorem mk_tb (m j i : Nat) : (m ^^^ 2 ^ j).testBit i = (if j = i then !m.testBit i else m.testBit i) := by
  rw [Nat.testBit_xor]
  by_cases e : j = i
  · rw [if_pos e, e, Nat.testBit_two_pow_self]
    cases m.testBit i <;> rfl
  · rw [if_neg e, Nat.testBit_two_pow_of_ne e]
    cases m.testBit i <;> rfl
theorem mk_bit {m n : Nat} (h : m ≠ 0) (hm : m < 2 ^ n) : ∃ k, k < n ∧ m.testBit k = true := by
  refine Classical.byContradiction (fun q => h (Nat.eq_of_testBit_eq (fun i => ?_)))
  rw [Nat.zero_testBit]
  by_cases hi : i < n
  · cases e : m.testBit i with
    | false => rfl
    | true => exact absurd ⟨i, hi, e⟩ q
  · exact Nat.testBit_lt_two_pow (Nat.lt_of_lt_of_le hm (Nat.pow_le_pow_right (by decide) (by omega)))
def mk_sb (b m : Nat) : Prop := ∀ i, b.testBit i = true → m.testBit i = true
theorem mk_sb.x {b m : Nat} (h : mk_sb b m) (i : Nat) : (m ^^^ b).testBit i = (m.testBit i && !b.testBit i) := by
  rw [Nat.testBit_xor]
  have := h i
  cases hb : b.testBit i <;> cases hm : m.testBit i <;> simp_all
theorem mk_xx (m b : Nat) : m ^^^ b ^^^ b = m := by rw [Nat.xor_assoc, Nat.xor_self, Nat.xor_zero]
theorem mk_lt {b m n : Nat} (h : mk_sb b m) (hm : m < 2 ^ n) : b < 2 ^ n := by
  refine Nat.lt_pow_two_of_testBit b (fun i hi => ?_)
  cases e : b.testBit i with
  | false => rfl
  | true =>
    have := h i e
    rw [Nat.testBit_lt_two_pow (Nat.lt_of_lt_of_le hm (Nat.pow_le_pow_right (by decide) hi))] at this
    exact absurd this (by decide)
theorem mk_sb_x1 {m k : Nat} (h : m.testBit k = true) : mk_sb (m ^^^ 2 ^ k) m := by
  intro i hi
  rw [mk_tb] at hi
  by_cases e : k = i
  · rw [← e]
    exact h
  · rw [if_neg e] at hi
    exact hi
def hs (l : List Int64) (m : Nat) : Nat → Int64
  | 0 => 0
  | k + 1 => if m.testBit k = true then hs l m k + l.getD k 0 else hs l m k
theorem hs_cong (l : List Int64) {m m2 : Nat} : ∀ n, (∀ i, i < n → m.testBit i = m2.testBit i) → hs l m n = hs l m2 n
  | 0, _ => rfl
  | n + 1, h => by
    unfold hs
    rw [h n (by omega), hs_cong l n (fun i hi => h i (by omega))]
theorem hs_x (l : List Int64) {m j : Nat} (hb : m.testBit j = true) : ∀ n, j < n → hs l m n = hs l (m ^^^ 2 ^ j) n + l.getD j 0
  | 0, h => absurd h (by omega)
  | n + 1, h => by
    unfold hs
    rw [mk_tb]
    by_cases e : j = n
    · subst e
      rw [if_pos rfl, hb, if_pos rfl, if_neg (by decide), hs_cong l j (m := m) (m2 := m ^^^ 2 ^ j) (fun i hi => by rw [mk_tb, if_neg (by omega)])]
    · rw [if_neg e, hs_x l hb n (by omega)]
      by_cases q : m.testBit n = true
      · rw [if_pos q, if_pos q, Int64.add_assoc, Int64.add_assoc, Int64.add_comm (l.getD j 0)]
      · rw [if_neg q, if_neg q]
theorem hs_add (l : List Int64) {a b : Nat} (h : ∀ i, a.testBit i = true → b.testBit i = false) : ∀ n, hs l (a ^^^ b) n = hs l a n + hs l b n
  | 0 => by
    show (0 : Int64) = 0 + 0
    decide
  | n + 1 => by
    unfold hs
    rw [Nat.testBit_xor, hs_add l h n]
    have := h n
    cases ha : a.testBit n
    · cases hb : b.testBit n
      · rw [if_neg (by decide), if_neg (by decide), if_neg (by decide)]
      · rw [if_pos (by decide), if_neg (by decide), if_pos (by decide), Int64.add_assoc]
    · rw [this ha, if_pos (by decide), if_pos (by decide), if_neg (by decide), Int64.add_assoc, Int64.add_assoc, Int64.add_comm (hs l b n)]
theorem hs_sb (l : List Int64) {b m : Nat} (h : mk_sb b m) (n : Nat) : hs l m n = hs l (m ^^^ b) n + hs l b n := by
  have := hs_add l (a := m ^^^ b) (b := b) (fun i hi => by
    rw [h.x] at hi
    cases hb : b.testBit i with
    | false => rfl
    | true => rw [hb] at hi; simp at hi) n
  rw [mk_xx] at this
  exact this
def ph_in (T : Nat → Nat) (m : Nat) : Nat → Nat
  | 0 => 0
  | k + 1 => if m.testBit k = true then max (ph_in T m k) (T (m ^^^ 2 ^ k)) else ph_in T m k
def ph_t (l : List Int64) (n : Nat) : Nat → Nat → Nat
  | 0 => fun _ => 0
  | m + 1 => fun j => if j = m then (if m = 0 then 0 else ph_in (ph_t l n m) m n + (if hs l m n = 0 then 1 else 0)) else ph_t l n m j
/-- the most heaps of a mask, of the first n -/
def ph (l : List Int64) (n m : Nat) : Nat := ph_t l n (m + 1) m
section
variable (l : List Int64) (n : Nat)
theorem ph_t_eq : ∀ (M j : Nat), j < M → ph_t l n M j = ph l n j
  | 0, j, h => absurd h (by omega)
  | M + 1, j, h => by
    by_cases e : j = M
    · subst e
      rfl
    · show (if j = M then _ else ph_t l n M j) = _
      rw [if_neg e]
      exact ph_t_eq M j (by omega)
theorem ph_in_congr {T T2 : Nat → Nat} (m : Nat) : ∀ n, (∀ k, k < n → m.testBit k = true → T (m ^^^ 2 ^ k) = T2 (m ^^^ 2 ^ k)) → ph_in T m n = ph_in T2 m n
  | 0, _ => rfl
  | n + 1, h => by
    unfold ph_in
    rw [ph_in_congr m n (fun k hk => h k (by omega))]
    by_cases q : m.testBit n = true
    · rw [if_pos q, if_pos q, h n (by omega) q]
    · rw [if_neg q, if_neg q]
theorem ph_0 : ph l n 0 = 0 := by
  show (if (0 : Nat) = 0 then (if (0 : Nat) = 0 then 0 else ph_in (ph_t l n 0) 0 n + (if hs l 0 n = 0 then 1 else 0)) else ph_t l n 0 0) = 0
  rw [if_pos rfl, if_pos rfl]
theorem ph_s {m : Nat} (hm : m ≠ 0) : ph l n m = ph_in (ph l n) m n + (if hs l m n = 0 then 1 else 0) := by
  show (if m = m then (if m = 0 then 0 else ph_in (ph_t l n m) m n + (if hs l m n = 0 then 1 else 0)) else _) = _
  rw [if_pos rfl, if_neg hm, ph_in_congr m n (fun k _ hb => ph_t_eq l n m _ (bt_lt hb))]
theorem ph_in_ge {T : Nat → Nat} {m k : Nat} (hb : m.testBit k = true) : ∀ n, k < n → T (m ^^^ 2 ^ k) ≤ ph_in T m n
  | 0, h => absurd h (by omega)
  | n + 1, h => by
    unfold ph_in
    by_cases e : k = n
    · subst e
      rw [if_pos hb]
      exact Nat.le_max_right _ _
    · have := ph_in_ge (T := T) hb n (by omega)
      by_cases q : m.testBit n = true
      · rw [if_pos q]
        exact Nat.le_trans this (Nat.le_max_left _ _)
      · rw [if_neg q]
        exact this
theorem ph_in_ex {T : Nat → Nat} {m : Nat} : ∀ n, ph_in T m n = 0 ∨ ∃ k, k < n ∧ m.testBit k = true ∧ ph_in T m n = T (m ^^^ 2 ^ k)
  | 0 => Or.inl rfl
  | n + 1 => by
    unfold ph_in
    by_cases q : m.testBit n = true
    · rw [if_pos q]
      rcases Nat.le_total (ph_in T m n) (T (m ^^^ 2 ^ n)) with z | z
      · exact Or.inr ⟨n, by omega, q, Nat.max_eq_right z⟩
      · rw [Nat.max_eq_left z]
        rcases ph_in_ex (T := T) (m := m) n with y | ⟨k, y1, y2, y3⟩
        · exact Or.inl y
        · exact Or.inr ⟨k, by omega, y2, y3⟩
    · rw [if_neg q]
      rcases ph_in_ex (T := T) (m := m) n with y | ⟨k, y1, y2, y3⟩
      · exact Or.inl y
      · exact Or.inr ⟨k, by omega, y2, y3⟩
theorem ph_ex {m : Nat} (hm : m ≠ 0) (hn : m < 2 ^ n) : ∃ k, k < n ∧ m.testBit k = true ∧ ph l n m = ph l n (m ^^^ 2 ^ k) + (if hs l m n = 0 then 1 else 0) := by
  rw [ph_s l n hm]
  rcases ph_in_ex (T := ph l n) (m := m) n with y | ⟨k, y1, y2, y3⟩
  · obtain ⟨k, k1, k2⟩ := mk_bit hm hn
    have := ph_in_ge (T := ph l n) k2 n k1
    exact ⟨k, k1, k2, by rw [y] at this ⊢; omega⟩
  · exact ⟨k, y1, y2, by rw [y3]⟩
theorem ph_ge {m k : Nat} (hk : k < n) (hb : m.testBit k = true) : ph l n (m ^^^ 2 ^ k) + (if hs l m n = 0 then 1 else 0) ≤ ph l n m := by
  have hm : m ≠ 0 := fun q => by rw [q, Nat.zero_testBit] at hb; exact absurd hb (by decide)
  rw [ph_s l n hm]
  have := ph_in_ge (T := ph l n) hb n hk
  omega
/-- a block whose sum is 0 is a heap more -/
theorem ph_blk : ∀ (M m : Nat), m ≤ M → m < 2 ^ n → ∀ b, b ≠ 0 → mk_sb b m → hs l b n = 0 → ph l n (m ^^^ b) + 1 ≤ ph l n m := by
  intro M
  induction M with
  | zero =>
    intro m hm _ b hb sb _
    obtain rfl : m = 0 := by omega
    refine absurd (Nat.eq_of_testBit_eq (fun i => ?_)) hb
    rw [Nat.zero_testBit]
    cases e : b.testBit i with
    | false => rfl
    | true => have := sb i e; rw [Nat.zero_testBit] at this; exact absurd this (by decide)
  | succ M ih =>
    intro m hm hn b hb sb h0
    have hz : hs l m n = hs l (m ^^^ b) n := by rw [hs_sb l sb n, h0, Int64.add_zero]
    have hm0 : m ≠ 0 := fun q => by
      rw [q] at sb
      refine hb (Nat.eq_of_testBit_eq (fun i => ?_))
      rw [Nat.zero_testBit]
      cases e : b.testBit i with
      | false => rfl
      | true => have := sb i e; rw [Nat.zero_testBit] at this; exact absurd this (by decide)
    by_cases hc : m ^^^ b = 0
    · rw [hc, ph_0]
      rw [hc] at hz
      rw [ph_s l n hm0, hz, if_pos (show hs l 0 n = 0 by
        have := hs_add l (a := 0) (b := 0) (fun i hi => Nat.zero_testBit i) n
        rw [Nat.xor_self] at this
        have h2 := congrArg (fun q => q - hs l 0 n) this
        simpa using h2.symm)]
      omega
    · have hcn : m ^^^ b < 2 ^ n := Nat.xor_lt_two_pow hn (mk_lt sb hn)
      obtain ⟨k, k1, k2, k3⟩ := ph_ex l n hc hcn
      have k4 := k2
      rw [sb.x, Bool.and_eq_true] at k4
      have kb : b.testBit k = false := by simpa using k4.2
      have lt := bt_lt k4.1
      have sb2 : mk_sb b (m ^^^ 2 ^ k) := by
        intro i hi
        rw [mk_tb, if_neg (fun q => by rw [q, hi] at kb; exact absurd kb (by decide))]
        exact sb i hi
      have r := ih (m ^^^ 2 ^ k) (by omega) (by omega) b hb sb2 h0
      have e : m ^^^ 2 ^ k ^^^ b = m ^^^ b ^^^ 2 ^ k := by rw [Nat.xor_assoc, Nat.xor_comm (2 ^ k), ← Nat.xor_assoc]
      rw [e] at r
      have g := ph_ge l n k1 k4.1
      rw [hz] at g
      omega
def pd : Nat → Nat → Prop
  | 0, _ => True
  | t + 1, m => ∃ b, b ≠ 0 ∧ mk_sb b m ∧ hs l b n = 0 ∧ pd t (m ^^^ b)
theorem pd_le : ∀ t m, m < 2 ^ n → pd l n t m → t ≤ ph l n m
  | 0, _, _, _ => Nat.zero_le _
  | t + 1, m, hm, ⟨b, b1, b2, b3, b4⟩ => by
    have := pd_le t (m ^^^ b) (Nat.xor_lt_two_pow hm (mk_lt b2 hm)) b4
    have := ph_blk l n m m (Nat.le_refl _) hm b b1 b2 b3
    omega
theorem pd_mono : ∀ t m m2, mk_sb m m2 → pd l n t m → pd l n t m2
  | 0, _, _, _, _ => trivial
  | t + 1, m, m2, h, ⟨b, b1, b2, b3, b4⟩ => by
    have b5 : mk_sb b m2 := fun i hi => h i (b2 i hi)
    refine ⟨b, b1, b5, b3, pd_mono t _ _ (fun i hi => ?_) b4⟩
    rw [b2.x, Bool.and_eq_true] at hi
    rw [b5.x, Bool.and_eq_true]
    exact ⟨h i hi.1, hi.2⟩
theorem pd_one : ∀ t c m, mk_sb c m → c ≠ m → hs l m n = 0 → pd l n t c → pd l n (t + 1) m
  | 0, c, m, h1, h2, h3, _ => ⟨m, fun q => h2 (by
      rw [q] at h1 ⊢
      refine Nat.eq_of_testBit_eq (fun i => ?_)
      rw [Nat.zero_testBit]
      cases e : c.testBit i with
      | false => rfl
      | true => have := h1 i e; rw [Nat.zero_testBit] at this; exact absurd this (by decide)), fun _ h => h, h3, trivial⟩
  | t + 1, c, m, h1, h2, h3, ⟨b, b1, b2, b3, b4⟩ => by
    have b5 : mk_sb b m := fun i hi => h1 i (b2 i hi)
    refine ⟨b, b1, b5, b3, pd_one t (c ^^^ b) (m ^^^ b) (fun i hi => ?_) (fun q => h2 ?_) ?_ b4⟩
    · rw [b2.x, Bool.and_eq_true] at hi
      rw [b5.x, Bool.and_eq_true]
      exact ⟨h1 i hi.1, hi.2⟩
    · have h9 : c ^^^ b ^^^ b = m ^^^ b ^^^ b := by rw [q]
      rw [mk_xx, mk_xx] at h9
      exact h9
    · have := hs_sb l b5 n
      rw [h3, b3, Int64.add_zero] at this
      exact this.symm
theorem pd_ph : ∀ (M m : Nat), m ≤ M → m < 2 ^ n → pd l n (ph l n m) m := by
  intro M
  induction M with
  | zero =>
    intro m hm _
    obtain rfl : m = 0 := by omega
    rw [ph_0]
    trivial
  | succ M ih =>
    intro m hm hn
    by_cases h0 : m = 0
    · rw [h0, ph_0]
      trivial
    · obtain ⟨k, k1, k2, k3⟩ := ph_ex l n h0 hn
      have lt := bt_lt k2
      have r := ih (m ^^^ 2 ^ k) (by omega) (by omega)
      rw [k3]
      by_cases z : hs l m n = 0
      · rw [if_pos z]
        exact pd_one l n _ _ _ (mk_sb_x1 k2) (by omega) z r
      · rw [if_neg z]
        exact pd_mono l n _ _ _ (mk_sb_x1 k2) r
theorem pd_rm : ∀ t m x, m.testBit x = true → pd l n (t + 1) m → pd l n t (m ^^^ 2 ^ x)
  | 0, _, _, _, _ => trivial
  | t + 1, m, x, hx, ⟨b, b1, b2, b3, b4⟩ => by
    cases e : b.testBit x with
    | true =>
      refine pd_mono l n _ _ _ (fun i hi => ?_) b4
      rw [b2.x, Bool.and_eq_true] at hi
      rw [mk_tb, if_neg (fun q => by rw [← q, e] at hi; simp at hi)]
      exact hi.1
    | false =>
      have sb2 : mk_sb b (m ^^^ 2 ^ x) := by
        intro i hi
        rw [mk_tb, if_neg (fun q => by rw [← q, e] at hi; exact absurd hi (by decide))]
        exact b2 i hi
      have r := pd_rm t (m ^^^ b) x (by rw [b2.x, hx, e]; rfl) b4
      have e2 : m ^^^ b ^^^ 2 ^ x = m ^^^ 2 ^ x ^^^ b := by rw [Nat.xor_assoc, Nat.xor_comm b, ← Nat.xor_assoc]
      rw [e2] at r
      exact ⟨b, b1, sb2, b3, r⟩
theorem ph_one {m x : Nat} (hn : m < 2 ^ n) (hx : m.testBit x = true) : ph l n m ≤ ph l n (m ^^^ 2 ^ x) + 1 := by
  have h := pd_ph l n m m (Nat.le_refl _) hn
  cases e : ph l n m with
  | zero => omega
  | succ t =>
    rw [e] at h
    have lt := bt_lt hx
    have := pd_le l n t _ (by omega) (pd_rm l n t m x hx h)
    omega
theorem ph_n : ∀ (M m : Nat), m ≤ M → m < 2 ^ n → ph l (n + 1) m = ph l n m := by
  intro M
  induction M with
  | zero =>
    intro m hm _
    obtain rfl : m = 0 := by omega
    rw [ph_0, ph_0]
  | succ M ih =>
    intro m hm hn
    by_cases h0 : m = 0
    · rw [h0, ph_0, ph_0]
    · have hb : ¬ m.testBit n = true := by rw [Nat.testBit_lt_two_pow hn]; decide
      rw [ph_s l (n + 1) h0, ph_s l n h0]
      have e1 : hs l m (n + 1) = hs l m n := if_neg hb
      have e2 : ph_in (ph l (n + 1)) m (n + 1) = ph_in (ph l (n + 1)) m n := if_neg hb
      rw [e1, e2, ph_in_congr (T2 := ph l n) m n (fun k _ hk => by
        have := bt_lt hk
        exact ih _ (by omega) (by omega))]
theorem mk_full : (2 ^ (n + 1) - 1) ^^^ 2 ^ n = 2 ^ n - 1 := by
  refine Nat.eq_of_testBit_eq (fun i => ?_)
  rw [mk_tb, Nat.testBit_two_pow_sub_one, Nat.testBit_two_pow_sub_one]
  by_cases e : n = i
  · rw [if_pos e, decide_eq_true (by omega), decide_eq_false (by omega)]
    rfl
  · rw [if_neg e]
    by_cases q : i < n
    · rw [decide_eq_true (by omega), decide_eq_true q]
    · rw [decide_eq_false (by omega), decide_eq_false q]
/-- where all is 0 together the last one needn't be tried -/
theorem ph_all (h : hs l (2 ^ (n + 1) - 1) (n + 1) = 0) : ph l (n + 1) (2 ^ (n + 1) - 1) = ph l n (2 ^ n - 1) + 1 := by
  have hp : 0 < 2 ^ n := Nat.two_pow_pos n
  have hp2 : 0 < 2 ^ (n + 1) := Nat.two_pow_pos (n + 1)
  have hb : (2 ^ (n + 1) - 1).testBit n = true := by
    rw [Nat.testBit_two_pow_sub_one, decide_eq_true (by omega)]
  have a := ph_one l (n + 1) (m := 2 ^ (n + 1) - 1) (by omega) hb
  have b := ph_ge l (n + 1) (Nat.lt_succ_self n) hb
  rw [if_pos h] at b
  rw [mk_full] at a b
  rw [ph_n l n (2 ^ n - 1) (2 ^ n - 1) (Nat.le_refl _) (by omega)] at a b
  omega
theorem bc_x {m k : Nat} (hb : m.testBit k = true) : ∀ n, k < n → bc_p (m ^^^ 2 ^ k) n + 1 = bc_p m n
  | 0, h => absurd h (by omega)
  | n + 1, h => by
    unfold bc_p
    rw [mk_tb]
    by_cases e : k = n
    · subst e
      have c : ∀ j, j ≤ k → bc_p (m ^^^ 2 ^ k) j = bc_p m j := by
        intro j
        induction j with
        | zero => intro _; rfl
        | succ j ih =>
          intro hj
          unfold bc_p
          rw [ih (by omega), mk_tb, if_neg (show ¬ k = j by omega)]
      rw [if_pos rfl, c k (Nat.le_refl _), hb]
      rfl
    · rw [if_neg e, ← bc_x hb n (by omega)]
      omega
theorem ph_bc : ∀ (M m : Nat), m ≤ M → m < 2 ^ n → ph l n m ≤ bc_p m n := by
  intro M
  induction M with
  | zero =>
    intro m hm _
    obtain rfl : m = 0 := by omega
    rw [ph_0]
    exact Nat.zero_le _
  | succ M ih =>
    intro m hm hn
    by_cases h0 : m = 0
    · rw [h0, ph_0]
      exact Nat.zero_le _
    · obtain ⟨k, k1, k2, k3⟩ := ph_ex l n h0 hn
      have lt := bt_lt k2
      have r := ih (m ^^^ 2 ^ k) (by omega) (by omega)
      have := bc_x k2 n k1
      rw [k3]
      split <;> omega
theorem ph_le {m : Nat} (hn : m < 2 ^ n) : ph l n m ≤ n := Nat.le_trans (ph_bc l n m m (Nat.le_refl _) hn) (bc_le m n)
end
/-- the reference's table -/
theorem hs_pt (l : List Int64) (T : Nat → Int32) (m : Nat) : ∀ k, (pt_in l T m k).1 = hs l m k
  | 0 => rfl
  | k + 1 => by
    unfold pt_in hs
    by_cases q : m.testBit k = true
    · rw [if_pos q, if_pos q, hs_pt l T m k]
    · rw [if_neg q, if_neg q, hs_pt l T m k]
theorem ph_pt_in (l : List Int64) (T : Nat → Int32) (T2 : Nat → Nat) (m : Nat) : ∀ n, (∀ k, k < n → m.testBit k = true → T (m ^^^ 2 ^ k) = nI (T2 (m ^^^ 2 ^ k)) ∧ T2 (m ^^^ 2 ^ k) ≤ 1000) → (pt_in l T m n).2 = nI (ph_in T2 m n) ∧ ph_in T2 m n ≤ 1000
  | 0, _ => ⟨rfl, Nat.zero_le _⟩
  | n + 1, h => by
    obtain ⟨i1, i2⟩ := ph_pt_in l T T2 m n (fun k hk => h k (by omega))
    unfold pt_in ph_in
    by_cases q : m.testBit n = true
    · obtain ⟨h1, h2⟩ := h n (by omega) q
      rw [if_pos q, if_pos q]
      dsimp only
      rw [i1, h1]
      rcases Nat.lt_or_ge (ph_in T2 m n) (T2 (m ^^^ 2 ^ n)) with z | z
      · rw [if_neg (nI_ge z (by omega)), Nat.max_eq_right (by omega)]
        exact ⟨rfl, h2⟩
      · rw [if_pos (nI_le z (by omega)), Nat.max_eq_left z]
        exact ⟨rfl, i2⟩
    · rw [if_neg q, if_neg q]
      exact ⟨i1, i2⟩
theorem ph_pt (l : List Int64) (hl : l.length ≤ 14) : ∀ (M j : Nat), M ≤ 2 ^ l.length → j < M → pt_t l M j = nI (ph l l.length j)
  | 0, j, _, h => absurd h (by omega)
  | M + 1, j, hM, h => by
    unfold pt_t
    by_cases e : j = M
    · rw [if_pos e, e]
      by_cases h0 : M = 0
      · rw [if_pos h0, h0, ph_0]
        rfl
      · have r := ph_pt_in l (pt_t l M) (ph l l.length) M l.length (fun k _ hb => by
          have := bt_lt hb
          refine ⟨ph_pt l hl M _ (by omega) this, ?_⟩
          have := ph_le l l.length (m := M ^^^ 2 ^ k) (by omega)
          omega)
        rw [if_neg h0, ph_s l l.length h0, hs_pt, r.1]
        by_cases z : hs l M l.length = 0
        · rw [if_pos z, if_pos z, nI_1]
        · rw [if_neg z, if_neg z]
          exact Int32.add_zero _
    · rw [if_neg e]
      exact ph_pt l hl M j (by omega) (by omega)
/-- where all is 0 together: the reference's answer by the last heat left out -/
theorem ph_ans (l : List Int64) (n : Nat) (hn : l.length = n + 1) (hl : l.length ≤ 14) (h : hs l (2 ^ l.length - 1) l.length = 0) : pt_ans l = nI l.length - (nI (ph l n (2 ^ n - 1)) + 1) := by
  unfold pt_ans
  have hp : 0 < 2 ^ l.length := Nat.two_pow_pos _
  rw [if_neg (by omega), ph_pt l hl _ _ (Nat.le_refl _) (by omega)]
  rw [hn] at h ⊢
  rw [ph_all l n h, nI_1]
