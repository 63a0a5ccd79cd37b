/-! least sums, whatever the list of levels -/
abbrev lg (L : List Int32) (k : Nat) : Int32 := L.getD k 0
theorem lv_first (L : List Int32) (x : Int32) : ∀ m, (∀ j, j < m → x.toInt < (lg L j).toInt) ∨ ∃ k, k < m ∧ (lg L k).toInt ≤ x.toInt ∧ ∀ j, j < k → x.toInt < (lg L j).toInt
  | 0 => Or.inl (fun j h => absurd h (by omega))
  | m + 1 => by
    rcases lv_first L x m with h | ⟨k, h1, h2⟩
    · by_cases z : (lg L m).toInt ≤ x.toInt
      · exact Or.inr ⟨m, by omega, z, h⟩
      · refine Or.inl (fun j hj => ?_)
        by_cases y : j = m
        · rw [y]
          omega
        · exact h j (by omega)
    · exact Or.inr ⟨k, by omega, h2⟩
theorem lv_where {L : List Int32} (hs : lv_srt L) (x : Int32) : (∀ y, y ∈ L → y.toInt < x.toInt) ∨ (∃ k, k < L.length ∧ lg L k = x) ∨ (∃ k, k + 1 < L.length ∧ (lg L (k + 1)).toInt < x.toInt ∧ x.toInt < (lg L k).toInt) ∨ (0 < L.length ∧ x.toInt < (lg L (L.length - 1)).toInt) := by
  rcases lv_first L x L.length with h | ⟨k, h1, h2, h3⟩
  · by_cases z : L.length = 0
    · refine Or.inl (fun y hy => ?_)
      rw [List.length_eq_zero_iff.mp z] at hy
      exact absurd hy List.not_mem_nil
    · exact Or.inr (Or.inr (Or.inr ⟨by omega, h _ (by omega)⟩))
  · by_cases e : lg L k = x
    · exact Or.inr (Or.inl ⟨k, h1, e⟩)
    · have e2 : ¬ (lg L k).toInt = x.toInt := fun q => e (Int32.toInt_inj.mp q)
      by_cases z : k = 0
      · refine Or.inl (fun y hy => ?_)
        obtain ⟨p, hp, ep⟩ := ll_at hy
        have := lv_le hs (Nat.zero_le p) hp
        rw [ep] at this
        rw [z] at h2 e2
        show y.toInt < x.toInt
        have q : (lg L 0).toInt = (L.getD 0 0).toInt := rfl
        omega
      · refine Or.inr (Or.inr (Or.inl ⟨k - 1, by omega, ?_, h3 (k - 1) (by omega)⟩))
        rw [show k - 1 + 1 = k by omega]
        omega
def pf (D A : Int32 → Int) (L : List Int32) : Prop := (∀ x, (∀ y, y ∈ L → y.toInt < x.toInt) → D x = 0 ∧ A x = 0) ∧ (∀ x k, k + 1 < L.length → (lg L (k + 1)).toInt < x.toInt → x.toInt < (lg L k).toInt → A x = 0 ∧ (D (lg L k) + A (lg L k) ≤ D x ∨ D (lg L (k + 1)) ≤ D x)) ∧ (∀ x, 0 < L.length → x.toInt < (lg L (L.length - 1)).toInt → A x = 0 ∧ D x = D (lg L (L.length - 1)) + A (lg L (L.length - 1))) ∧ (0 < L.length → D (lg L 0) = 0)
def zmin (x y : Int) : Int := if y < x then y else x
def mnI (D A : Int32 → Int) (L : List Int32) : Nat → Int
  | 0 => 0
  | k + 1 => zmin (mnI D A L k) (zmin (D (lg L k)) (D (lg L k) + A (lg L k)))
theorem zmin_le (x y : Int) : zmin x y ≤ x ∧ zmin x y ≤ y := by
  unfold zmin
  split <;> omega
theorem zmin_eq (x y : Int) : zmin x y = x ∨ zmin x y = y := by
  unfold zmin
  split
  · exact Or.inr rfl
  · exact Or.inl rfl
theorem lmin_im (x y : Int64) : (lmin x y).toInt = zmin x.toInt y.toInt := lmin_i x y
section
variable {D A : Int32 → Int} {L : List Int32}
theorem mn_le0 : ∀ k, mnI D A L k ≤ 0
  | 0 => Int.le_refl 0
  | k + 1 => Int.le_trans (zmin_le _ _).1 (mn_le0 k)
theorem mn_le : ∀ k j, j < k → mnI D A L k ≤ D (lg L j) ∧ mnI D A L k ≤ D (lg L j) + A (lg L j)
  | 0, j, h => absurd h (by omega)
  | k + 1, j, h => by
    by_cases z : j = k
    · rw [z]
      have h1 := (zmin_le (mnI D A L k) (zmin (D (lg L k)) (D (lg L k) + A (lg L k)))).2
      have h2 := zmin_le (D (lg L k)) (D (lg L k) + A (lg L k))
      exact ⟨Int.le_trans h1 h2.1, Int.le_trans h1 h2.2⟩
    · have h1 := (zmin_le (mnI D A L k) (zmin (D (lg L k)) (D (lg L k) + A (lg L k)))).1
      have h2 := mn_le k j (by omega)
      exact ⟨Int.le_trans h1 h2.1, Int.le_trans h1 h2.2⟩
theorem mn_at : ∀ k, mnI D A L k = 0 ∨ ∃ j, j < k ∧ (mnI D A L k = D (lg L j) ∨ mnI D A L k = D (lg L j) + A (lg L j))
  | 0 => Or.inl rfl
  | k + 1 => by
    rcases zmin_eq (mnI D A L k) (zmin (D (lg L k)) (D (lg L k) + A (lg L k))) with e | e
    · rcases mn_at k with h | ⟨j, h1, h2⟩
      · exact Or.inl (e.trans h)
      · exact Or.inr ⟨j, by omega, h2.elim (fun q => Or.inl (e.trans q)) (fun q => Or.inr (e.trans q))⟩
    · exact Or.inr ⟨k, by omega, (zmin_eq (D (lg L k)) (D (lg L k) + A (lg L k))).elim (fun q => Or.inl (e.trans q)) (fun q => Or.inr (e.trans q))⟩
/-- what the least sum is -/
def ml (D A : Int32 → Int) (m : Int) : Prop := m ≤ 0 ∧ (∀ x, m ≤ D x ∧ m ≤ D x + A x) ∧ (m = 0 ∨ ∃ x, m = D x ∨ m = D x + A x)
theorem ml.u {m m2 : Int} (h : ml D A m) (h2 : ml D A m2) : m = m2 := by
  obtain ⟨a1, a2, a3⟩ := h
  obtain ⟨b1, b2, b3⟩ := h2
  have l1 : m ≤ m2 := by
    rcases b3 with e | ⟨x, e | e⟩
    · omega
    · rw [e]
      exact (a2 x).1
    · rw [e]
      exact (a2 x).2
  have l2 : m2 ≤ m := by
    rcases a3 with e | ⟨x, e | e⟩
    · omega
    · rw [e]
      exact (b2 x).1
    · rw [e]
      exact (b2 x).2
  omega
theorem pf.ml (h : pf D A L) (hs : lv_srt L) : ml D A (mnI D A L L.length) := by
  obtain ⟨h1, h2, h3, h4⟩ := h
  refine ⟨mn_le0 _, fun x => ?_, ?_⟩
  · have m0 := mn_le0 (D := D) (A := A) (L := L) L.length
    rcases lv_where hs x with q | ⟨k, hk, e⟩ | ⟨k, hk, q1, q2⟩ | ⟨hk, q⟩
    · obtain ⟨e1, e2⟩ := h1 x q
      rw [e1, e2]
      omega
    · rw [← e]
      exact mn_le _ k hk
    · obtain ⟨e1, e2⟩ := h2 x k hk q1 q2
      have a := (mn_le (D := D) (A := A) (L := L) L.length k (by omega)).2
      have b := (mn_le (D := D) (A := A) (L := L) L.length (k + 1) hk).1
      rw [e1]
      omega
    · obtain ⟨e1, e2⟩ := h3 x hk q
      have a := (mn_le (D := D) (A := A) (L := L) L.length (L.length - 1) (by omega)).2
      rw [e1, e2]
      omega
  · rcases mn_at (D := D) (A := A) (L := L) L.length with e | ⟨j, -, e⟩
    · exact Or.inl e
    · exact Or.inr ⟨_, e⟩
/-- one heat more that stands at a level of the list -/
theorem pf.ex (h : pf D A L) (hs : lv_srt L) {v : Int32} (hm : v ∈ L) (p : Int) : pf (fun x => D x + (if x.toInt < v.toInt then p else 0)) (fun x => A x + (if x = v then p else 0)) L := by
  obtain ⟨h1, h2, h3, h4⟩ := h
  obtain ⟨q, hq, e⟩ := ll_at hm
  have ne : ∀ {x y : Int32}, ¬ x.toInt = y.toInt → ¬ x = y := fun h g => h (by rw [g])
  refine ⟨fun x hx => ?_, fun x k hk l1 l2 => ?_, fun x hk l1 => ?_, fun hn => ?_⟩
  · obtain ⟨e1, e2⟩ := h1 x hx
    have := hx v hm
    show D x + _ = 0 ∧ A x + _ = 0
    rw [e1, e2, if_neg (by omega), if_neg (ne (by omega))]
    exact ⟨rfl, rfl⟩
  · obtain ⟨e1, e2⟩ := h2 x k hk l1 l2
    have nb := lv_nb hs hm hk
    have nb2 : (lg L k).toInt ≤ v.toInt ∨ v.toInt ≤ (lg L (k + 1)).toInt := nb
    show A x + _ = 0 ∧ (D (lg L k) + _ + (A (lg L k) + _) ≤ D x + _ ∨ D (lg L (k + 1)) + _ ≤ D x + _)
    rw [e1, if_neg (ne (show ¬ x.toInt = v.toInt by omega))]
    refine ⟨rfl, ?_⟩
    by_cases z : (lg L k).toInt ≤ v.toInt
    · rw [if_pos (show x.toInt < v.toInt by omega), if_pos (show (lg L (k + 1)).toInt < v.toInt by omega)]
      by_cases y : lg L k = v
      · rw [if_pos y, if_neg (by rw [y]; omega)]
        omega
      · have y2 : ¬ (lg L k).toInt = v.toInt := fun r => y (Int32.toInt_inj.mp r)
        rw [if_neg y, if_pos (show (lg L k).toInt < v.toInt by omega)]
        omega
    · rw [if_neg (show ¬ x.toInt < v.toInt by omega), if_neg (show ¬ (lg L (k + 1)).toInt < v.toInt by omega), if_neg (show ¬ (lg L k).toInt < v.toInt by omega), if_neg (ne (show ¬ (lg L k).toInt = v.toInt by omega))]
      omega
  · obtain ⟨e1, e2⟩ := h3 x hk l1
    have l2 := lv_le hs (show q ≤ L.length - 1 by omega) (by omega)
    rw [e] at l2
    have l3 : (lg L (L.length - 1)).toInt ≤ v.toInt := l2
    show A x + _ = 0 ∧ D x + _ = D (lg L (L.length - 1)) + _ + (A (lg L (L.length - 1)) + _)
    rw [e1, e2, if_neg (ne (show ¬ x.toInt = v.toInt by omega)), if_pos (show x.toInt < v.toInt by omega)]
    refine ⟨rfl, ?_⟩
    by_cases y : lg L (L.length - 1) = v
    · rw [if_pos y, if_neg (by rw [y]; omega)]
      omega
    · have y2 : ¬ (lg L (L.length - 1)).toInt = v.toInt := fun r => y (Int32.toInt_inj.mp r)
      rw [if_neg y, if_pos (show (lg L (L.length - 1)).toInt < v.toInt by omega)]
      omega
  · have l2 := lv_le hs (Nat.zero_le q) hq
    rw [e] at l2
    have l3 : v.toInt ≤ (lg L 0).toInt := l2
    show D (lg L 0) + _ = 0
    rw [h4 hn, if_neg (by omega)]
    rfl
/-- the sums as whole numbers -/
theorem cf_i {a b : Nat → Int64} (h0 : 0 < L.length → D (lg L 0) = 0) (bd : ∀ k, k < L.length → (-1000000000000000 ≤ D (lg L k) ∧ D (lg L k) ≤ 1000000000000000) ∧ (-1000000000000000 ≤ A (lg L k) ∧ A (lg L k) ≤ 1000000000000000)) (ha : ∀ k, k < L.length → (a k).toInt = A (lg L k)) (hb : ∀ k, k + 1 < L.length → (b k).toInt = D (lg L (k + 1)) - D (lg L k) - A (lg L k)) : ∀ k, k < L.length → (cf_su a b k).toInt = D (lg L k) ∧ (cf_su a b k + a k).toInt = D (lg L k) + A (lg L k)
  | 0, hk => by
    have e := h0 hk
    have e2 : (cf_su a b 0).toInt = 0 := rfl
    have q := bd 0 hk
    refine ⟨by rw [e]; rfl, ?_⟩
    rw [Int64.toInt_add, e2, ha 0 hk, e]
    exact Int.bmod_eq_of_le (by omega) (by omega)
  | k + 1, hk => by
    obtain ⟨-, i2⟩ := cf_i h0 bd ha hb k (by omega)
    have q := bd (k + 1) hk
    have q2 := bd k (by omega)
    have e : (cf_su a b (k + 1)).toInt = D (lg L (k + 1)) := by
      show (cf_su a b k + a k + b k).toInt = _
      rw [Int64.toInt_add, i2, hb k hk]
      rw [Int.bmod_eq_of_le (by omega) (by omega)]
      omega
    refine ⟨e, ?_⟩
    rw [Int64.toInt_add, e, ha _ hk]
    exact Int.bmod_eq_of_le (by omega) (by omega)
theorem cf_mi {a b : Nat → Int64} (h : ∀ k, k < L.length → (cf_su a b k).toInt = D (lg L k) ∧ (cf_su a b k + a k).toInt = D (lg L k) + A (lg L k)) : ∀ k, k ≤ L.length → (cf_mn a b k).toInt = mnI D A L k
  | 0, _ => rfl
  | k + 1, hk => by
    obtain ⟨e1, e2⟩ := h k (by omega)
    show (lmin (cf_mn a b k) (lmin (cf_su a b k) (cf_su a b k + a k))).toInt = zmin (mnI D A L k) (zmin (D (lg L k)) (D (lg L k) + A (lg L k)))
    rw [lmin_im, lmin_im, e1, e2, cf_mi h k (by omega)]
end
section
variable {N : Nat → Int32} {M : Nat}
theorem pf_D (k : tk N M) {w : Int32} {L : List Int32} (h : lv_ok N w M L) : pf (fun x => zD N w x M) (fun x => zA N w x M) L := by
  obtain ⟨hs, hB, hw⟩ := h
  refine ⟨fun x hx => ⟨zD_top k (fun y hy => by have := hx y (hw y hy); omega) M (Nat.le_refl _), zA_off k (fun y hy => by have := hx y (hw y hy); omega) M (Nat.le_refl _)⟩, fun x p hp l1 l2 => ?_, fun x hn l1 => ?_, fun hn => ?_⟩
  · have b1 := hB _ (lv_in (L := L) (k := p) (by omega))
    have nb : ∀ y, y ∈ lv_w N w M → (lg L p).toInt ≤ y.toInt ∨ y.toInt ≤ (lg L (p + 1)).toInt := fun y hy => lv_nb hs (hw y hy) hp
    have s1 := zD_step k (hi := lg L p) (lo := x) l2 (by show (L.getD p 0).toInt ≤ _; omega) (fun y hy => (nb y hy).elim Or.inl (fun q => Or.inr (by omega))) M (Nat.le_refl _)
    have s2 := zD_step k (hi := lg L p) (lo := lg L (p + 1)) (by omega) (by show (L.getD p 0).toInt ≤ _; omega) nb M (Nat.le_refl _)
    have f1 := la_F k (hi := lg L p) (lo := x) l2 (fun y hy => (nb y hy).elim Or.inl (fun q => Or.inr (by omega))) M (Nat.le_refl _)
    have f2 := la_F k (hi := lg L p) (lo := lg L (p + 1)) (by omega) nb M (Nat.le_refl _)
    refine ⟨zA_off k (fun y hy => by have := nb y hy; omega) M (Nat.le_refl _), ?_⟩
    show zD N w (lg L p) M + zA N w (lg L p) M ≤ zD N w x M ∨ zD N w (lg L (p + 1)) M ≤ zD N w x M
    rw [s1, s2, f1, f2]
    by_cases z : 0 ≤ zF N w (lg L p) M
    · have := Int.mul_nonneg z (show 0 ≤ (lg L p).toInt - x.toInt by omega)
      exact Or.inl (by omega)
    · have := Int.mul_le_mul_of_nonpos_left (a := zF N w (lg L p) M) (b := (lg L p).toInt - (lg L (p + 1)).toInt) (c := (lg L p).toInt - x.toInt) (by omega) (by omega)
      exact Or.inr (by omega)
  · have lw : ∀ y, y ∈ lv_w N w M → (lg L (L.length - 1)).toInt ≤ y.toInt := by
      intro y hy
      obtain ⟨q, hq, e⟩ := ll_at (hw y hy)
      rw [← e]
      exact lv_le hs (by omega) (by omega)
    have b1 := hB _ (lv_in (L := L) (k := L.length - 1) (by omega))
    have s1 := zD_step k (hi := lg L (L.length - 1)) (lo := x) l1 (by show (L.getD (L.length - 1) 0).toInt ≤ _; omega) (fun y hy => Or.inl (lw y hy)) M (Nat.le_refl _)
    rw [la_0 k lw M (Nat.le_refl _), Int.add_zero] at s1
    exact ⟨zA_off k (fun y hy => by have := lw y hy; omega) M (Nat.le_refl _), s1⟩
  · refine zD_top k (fun y hy => ?_) M (Nat.le_refl _)
    obtain ⟨q, hq, e⟩ := ll_at (hw y hy)
    rw [← e]
    exact lv_le hs (Nat.zero_le _) hq
theorem b_i {T : tv} (t : tls T N) {w : Int32} {L : List Int32} (h : lv_ok N w T.2.1 L) {p : Nat} (hp : p + 1 < L.length) : (tw_b T w L p).toInt = zD N w (lg L (p + 1)) T.2.1 - zD N w (lg L p) T.2.1 - zA N w (lg L p) T.2.1 := by
  have b1 := h.2.1 _ (lv_in (L := L) (k := p) (by omega))
  have s2 := zD_step t.k (w := w) (hi := lg L p) (lo := lg L (p + 1)) (ll_lt h.1 (by omega) hp) (by show (L.getD p 0).toInt ≤ _; omega) (fun y hy => lv_nb h.1 (h.2.2 y hy) hp) T.2.1 (Nat.le_refl _)
  unfold tw_b
  rw [cl_la t h hp _ (Nat.le_refl _), (la_i t.k w _ _ _ (Nat.le_refl _)).1]
  show la_I N w (lg L p).toInt (lg L (p + 1)).toInt T.2.1 = _
  omega
theorem a_i {T : tv} (t : tls T N) (w : Int32) (L : List Int32) (p : Nat) : (tw_a T w L p).toInt = zA N w (lg L p) T.2.1 := by
  rw [hw_a t]
  exact st_i t.k w _ _ (Nat.le_refl _)
end
