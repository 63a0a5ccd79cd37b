/-! the least distance of two streams that meet, both ways -/
theorem mb_i {a b A B : Int} (ha : -A ≤ a ∧ a ≤ A) (hb : 0 ≤ b ∧ b ≤ B) : -(A * B) ≤ a * b ∧ a * b ≤ A * B := by
  have h1 : a * b ≤ A * b := Int.mul_le_mul_of_nonneg_right ha.2 hb.1
  have h2 : -A * b ≤ a * b := Int.mul_le_mul_of_nonneg_right ha.1 hb.1
  have h3 : A * b ≤ A * B := Int.mul_le_mul_of_nonneg_left hb.2 (by omega)
  rw [Int.neg_mul] at h2
  omega
theorem fdv_x (x y : Int64) (hy : 0 < y.toInt) : x ^^^ y < 0 ↔ x.toInt < 0 := by
  have m : ∀ z : Int64, z < 0 ↔ z.toBitVec.msb = true := by
    intro z
    rw [Int64.lt_iff_toInt_lt, show (0 : Int64).toInt = 0 from rfl, BitVec.msb_eq_toInt]
    rw [decide_eq_true_iff]
    rfl
  have hy2 : y.toBitVec.msb = false := by
    rw [BitVec.msb_eq_toInt, decide_eq_false_iff_not]
    show ¬ y.toInt < 0
    omega
  rw [m]
  show (x.toBitVec ^^^ y.toBitVec).msb = true ↔ _
  rw [BitVec.msb_xor, hy2, Bool.xor_false, ← m, Int64.lt_iff_toInt_lt]
  rfl
theorem fdv_k {x y : Int} (hy : 0 < y) : (if x < 0 ∧ ¬ x.tdiv y * y = x then x.tdiv y - 1 else x.tdiv y) = x / y := by
  have e := Int.tdiv_eq_ediv (a := x) (b := y)
  have sg : y.sign = 1 := Int.sign_eq_one_of_pos hy
  rw [sg] at e
  by_cases z : 0 ≤ x ∨ y ∣ x
  · rw [if_pos z, Int.add_zero] at e
    rw [if_neg, e]
    rintro ⟨h1, h2⟩
    rcases z with z | z
    · omega
    · apply h2
      rw [e]
      exact Int.ediv_mul_cancel z
  · rw [if_neg z] at e
    have z1 : ¬ 0 ≤ x := fun q => z (Or.inl q)
    rw [if_pos ⟨by omega, fun q => z (Or.inr ⟨x.tdiv y, by rw [Int.mul_comm]; exact q.symm⟩)⟩, e]
    omega
theorem td_in {x y : Int} (hy : 0 < y) (hx : -1000000000000000 ≤ x ∧ x ≤ 1000000000000000) : -1000000000000001 ≤ x.tdiv y ∧ x.tdiv y ≤ 1000000000000001 := by
  have e := Int.tdiv_eq_ediv (a := x) (b := y)
  have sg : y.sign = 1 := Int.sign_eq_one_of_pos hy
  rw [sg] at e
  have l1 : x / y ≤ 1000000000000000 := by
    have : x / y < 1000000000000001 := (Int.ediv_lt_iff_lt_mul hy).mpr (by
      have : 1000000000000001 * 1 ≤ 1000000000000001 * y := Int.mul_le_mul_of_nonneg_left (by omega) (by decide)
      omega)
    omega
  have l2 : -1000000000000000 ≤ x / y := (Int.le_ediv_iff_mul_le hy).mpr (by
      have : 1000000000000000 * 1 ≤ 1000000000000000 * y := Int.mul_le_mul_of_nonneg_left (by omega) (by decide)
      omega)
  rw [e]
  split <;> omega
theorem div_i {x y : Int64} (hy : 0 < y.toInt) (hx : -1000000000000000 ≤ x.toInt ∧ x.toInt ≤ 1000000000000000) : (x / y).toInt = x.toInt.tdiv y.toInt := by
  have b := td_in hy hx
  rw [Int64.toInt_div]
  exact Int.bmod_eq_of_le (by omega) (by omega)
theorem div_c {x y : Int64} (hy : 0 < y.toInt) (hx : -1000000000000000 ≤ x.toInt ∧ x.toInt ≤ 1000000000000000) : x / y * y = x ↔ x.toInt.tdiv y.toInt * y.toInt = x.toInt := by
  have e := div_i hy hx
  have b := td_in hy hx
  have bm : -1000000000000001 ≤ x.toInt.tdiv y.toInt * y.toInt ∧ x.toInt.tdiv y.toInt * y.toInt ≤ 1000000000000001 := by
    have m := Int.tdiv_mul_le x.toInt (b := y.toInt) (by omega)
    have e2 := Int.tmod_add_mul_tdiv x.toInt y.toInt
    have h3 : y.toInt * x.toInt.tdiv y.toInt = x.toInt.tdiv y.toInt * y.toInt := Int.mul_comm _ _
    by_cases z : 0 ≤ x.toInt
    · have l := Int.tmod_nonneg y.toInt z
      have l3 : 0 ≤ x.toInt.tdiv y.toInt * y.toInt := Int.mul_nonneg (Int.tdiv_nonneg z (by omega)) (by omega)
      omega
    · have l := Int.tmod_nonneg (-y.toInt) (show 0 ≤ -x.toInt by omega)
      rw [Int.neg_tmod, Int.tmod_neg] at l
      have l3 : 0 ≤ (-x.toInt).tdiv y.toInt * y.toInt := Int.mul_nonneg (Int.tdiv_nonneg (by omega) (by omega)) (by omega)
      rw [Int.neg_tdiv, Int.neg_mul] at l3
      omega
  rw [← Int64.toInt_inj, Int64.toInt_mul, e, Int.bmod_eq_of_le (by omega) (by omega)]
theorem fdv_i {x y : Int64} (hy : 0 < y.toInt) (hx : -1000000000000000 ≤ x.toInt ∧ x.toInt ≤ 1000000000000000) : (fdv x y).toInt = x.toInt / y.toInt := by
  have e := div_i hy hx
  have b := td_in hy hx
  rw [← fdv_k hy]
  unfold fdv
  by_cases z : x ^^^ y < 0 ∧ ¬ x / y * y = x
  · rw [if_pos z, if_pos ⟨(fdv_x x y hy).mp z.1, fun q => z.2 ((div_c hy hx).mpr q)⟩, Int64.toInt_sub, e, show (1 : Int64).toInt = 1 from rfl]
    exact Int.bmod_eq_of_le (by omega) (by omega)
  · rw [if_neg z, if_neg (fun q => z ⟨(fdv_x x y hy).mpr q.1, fun r => q.2 ((div_c hy hx).mp r)⟩), e]
/-- a fraction that will do -/
def fr_ok (ab : Int64 × Int64) : Prop := (1 ≤ ab.2.toInt ∧ ab.2.toInt ≤ 1000000) ∧ (-(7000 * ab.2.toInt) ≤ ab.1.toInt ∧ ab.1.toInt ≤ 7000 * ab.2.toInt)
def flq (ab : Int64 × Int64) : Int := 1000 * ab.1.toInt / ab.2.toInt
theorem fr_m {ab : Int64 × Int64} (h : fr_ok ab) : (1000 * ab.1).toInt = 1000 * ab.1.toInt := by
  obtain ⟨h1, h2⟩ := h
  rw [Int64.toInt_mul, show (1000 : Int64).toInt = 1000 from rfl]
  exact Int.bmod_eq_of_le (by omega) (by omega)
theorem flq_in {ab : Int64 × Int64} (h : fr_ok ab) : -7000000 ≤ flq ab ∧ flq ab ≤ 7000000 := by
  obtain ⟨h1, h2⟩ := h
  unfold flq
  constructor
  · exact (Int.le_ediv_iff_mul_le (by omega)).mpr (by omega)
  · have : 1000 * ab.1.toInt / ab.2.toInt < 7000001 := (Int.ediv_lt_iff_lt_mul (by omega)).mpr (by omega)
    omega
theorem i32_of {x : Int64} (h : -1000000000 ≤ x.toInt ∧ x.toInt ≤ 1000000000) : x.toInt32.toInt = x.toInt := by
  rw [Int64.toInt_toInt32]
  exact Int.bmod_eq_of_le (by omega) (by omega)
theorem fr_fdv {ab : Int64 × Int64} (h : fr_ok ab) : ((fdv (1000 * ab.1) ab.2).toInt32).toInt = flq ab := by
  have e := fr_m h
  have b := flq_in h
  obtain ⟨h1, h2⟩ := h
  have f := fdv_i (x := 1000 * ab.1) (y := ab.2) (by omega) (by omega)
  rw [e] at f
  rw [i32_of (by rw [f]; unfold flq at b; omega), f]
  rfl
theorem cl_q_i {ab : Int64 × Int64} (h : fr_ok ab) : (cl_q ab.1 ab.2).toInt = flq ab := by
  rw [← fr_fdv h]
  have e := fr_m h
  obtain ⟨h1, h2⟩ := h
  unfold cl_q fdv
  by_cases z : 1000 * ab.1 < 0 ∧ ¬ 1000 * ab.1 / ab.2 * ab.2 = 1000 * ab.1
  · rw [if_pos z, if_pos ⟨(fdv_x _ _ (by omega)).mpr (by have := Int64.lt_iff_toInt_lt.mp z.1; exact this), z.2⟩]
  · rw [if_neg z, if_neg (fun q => z ⟨Int64.lt_iff_toInt_lt.mpr ((fdv_x _ _ (by omega)).mp q.1), q.2⟩)]
theorem fl_mono {a b n d : Int} (hb : 0 < b) (hd : 0 < d) (h : a * d ≤ n * b) : 1000 * a / b ≤ 1000 * n / d := by
  refine (Int.le_ediv_iff_mul_le hd).mpr ?_
  have q : 1000 * a / b * b ≤ 1000 * a := (Int.le_ediv_iff_mul_le hb).mp (Int.le_refl _)
  refine Int.le_of_mul_le_mul_right (a := b) ?_ hb
  have h2 := Int.mul_le_mul_of_nonneg_right q (show 0 ≤ d by omega)
  have e1 : 1000 * a / b * b * d = 1000 * a / b * d * b := by grind
  have e2 : 1000 * a * d = 1000 * (a * d) := by grind
  have e3 : 1000 * n * b = 1000 * (n * b) := by grind
  rw [e1, e2] at h2
  rw [e3]
  omega
/-- what is asked of a place of the reference -/
def m4_ok (p : m4) : Prop := (0 ≤ p.1.toInt ∧ p.1.toInt ≤ 2000) ∧ (1 ≤ p.2.2.1.toInt ∧ p.2.2.1.toInt ≤ 1000) ∧ (0 ≤ p.2.1.toInt ∧ p.2.1.toInt ≤ 2200 * p.2.2.1.toInt)
theorem ms_fr {p q : m4} (hp : m4_ok p) (hq : m4_ok q) : fr_ok (ms_n p q, ms_d p q) := by
  obtain ⟨a1, a2, a3⟩ := hp
  obtain ⟨b1, b2, b3⟩ := hq
  have ed : (ms_d p q).toInt = p.2.2.1.toInt * q.2.2.1.toInt := by
    have m := mb_i (a := p.2.2.1.toInt) (b := q.2.2.1.toInt) (A := 1000) (B := 1000) (by omega) (by omega)
    unfold ms_d
    rw [Int64.toInt_mul]
    exact Int.bmod_eq_of_le (by omega) (by omega)
  have dlo : 1 * 1 ≤ p.2.2.1.toInt * q.2.2.1.toInt := Int.mul_le_mul (by omega) (by omega) (by omega) (by omega)
  have dhi := mb_i (a := p.2.2.1.toInt) (b := q.2.2.1.toInt) (A := 1000) (B := 1000) (by omega) (by omega)
  have m1 : -(2000 * (p.2.2.1.toInt * q.2.2.1.toInt)) ≤ (p.1.toInt - q.1.toInt) * (p.2.2.1.toInt * q.2.2.1.toInt) ∧ (p.1.toInt - q.1.toInt) * (p.2.2.1.toInt * q.2.2.1.toInt) ≤ 2000 * (p.2.2.1.toInt * q.2.2.1.toInt) := mb_i (by omega) (by omega)
  have m2 : 0 ≤ p.2.1.toInt * q.2.2.1.toInt := Int.mul_nonneg (by omega) (by omega)
  have m3 : p.2.1.toInt * q.2.2.1.toInt ≤ 2200 * p.2.2.1.toInt * q.2.2.1.toInt := Int.mul_le_mul_of_nonneg_right a3.2 (by omega)
  have m4 : 0 ≤ q.2.1.toInt * p.2.2.1.toInt := Int.mul_nonneg (by omega) (by omega)
  have m5 : q.2.1.toInt * p.2.2.1.toInt ≤ 2200 * q.2.2.1.toInt * p.2.2.1.toInt := Int.mul_le_mul_of_nonneg_right b3.2 (by omega)
  have e3 : 2200 * p.2.2.1.toInt * q.2.2.1.toInt = 2200 * (p.2.2.1.toInt * q.2.2.1.toInt) := by grind
  have e5 : 2200 * q.2.2.1.toInt * p.2.2.1.toInt = 2200 * (p.2.2.1.toInt * q.2.2.1.toInt) := by grind
  have m6 := mb_i (a := p.1.toInt - q.1.toInt) (b := p.2.2.1.toInt) (A := 2000) (B := 1000) (by omega) (by omega)
  have e6 : (p.1.toInt - q.1.toInt) * p.2.2.1.toInt * q.2.2.1.toInt = (p.1.toInt - q.1.toInt) * (p.2.2.1.toInt * q.2.2.1.toInt) := Int.mul_assoc _ _ _
  have en : (ms_n p q).toInt = (p.1.toInt - q.1.toInt) * (p.2.2.1.toInt * q.2.2.1.toInt) - p.2.1.toInt * q.2.2.1.toInt + q.2.1.toInt * p.2.2.1.toInt := by
    unfold ms_n
    rw [Int64.toInt_add, Int64.toInt_sub, Int64.toInt_mul, Int64.toInt_mul, Int64.toInt_sub, Int64.toInt_mul, Int64.toInt_mul]
    rw [Int.bmod_eq_of_le (n := p.1.toInt - q.1.toInt) (by omega) (by omega), Int.bmod_eq_of_le (n := (p.1.toInt - q.1.toInt) * p.2.2.1.toInt) (by omega) (by omega), e6, Int.bmod_eq_of_le (n := (p.1.toInt - q.1.toInt) * (p.2.2.1.toInt * q.2.2.1.toInt)) (by omega) (by omega), Int.bmod_eq_of_le (n := p.2.1.toInt * q.2.2.1.toInt) (by omega) (by omega), Int.bmod_eq_of_le (n := (p.1.toInt - q.1.toInt) * (p.2.2.1.toInt * q.2.2.1.toInt) - p.2.1.toInt * q.2.2.1.toInt) (by omega) (by omega), Int.bmod_eq_of_le (n := q.2.1.toInt * p.2.2.1.toInt) (by omega) (by omega)]
    exact Int.bmod_eq_of_le (by omega) (by omega)
  show (1 ≤ (ms_d p q).toInt ∧ (ms_d p q).toInt ≤ 1000000) ∧ (-(7000 * (ms_d p q).toInt) ≤ (ms_n p q).toInt ∧ (ms_n p q).toInt ≤ 7000 * (ms_d p q).toInt)
  rw [ed, en]
  omega
theorem ms_a_1 {p q : m4} {ab : Int64 × Int64} : ms_a p q true ab = (ms_n p q, ms_d p q) := if_pos (Or.inl rfl)
theorem ms_a_2 {p q : m4} (hp : m4_ok p) (hq : m4_ok q) {ab : Int64 × Int64} (h : fr_ok ab) : fr_ok (ms_a p q false ab) ∧ flq (ms_a p q false ab) = if flq (ms_n p q, ms_d p q) < flq ab then flq (ms_n p q, ms_d p q) else flq ab := by
  have f := ms_fr hp hq
  obtain ⟨f1, f2⟩ := f
  obtain ⟨h1, h2⟩ := h
  have f1' : 1 ≤ (ms_d p q).toInt ∧ (ms_d p q).toInt ≤ 1000000 := f1
  have f2' : -(7000 * (ms_d p q).toInt) ≤ (ms_n p q).toInt ∧ (ms_n p q).toInt ≤ 7000 * (ms_d p q).toInt := f2
  have x1 := mb_i (a := (ms_n p q).toInt) (b := ab.2.toInt) (A := 7000000000) (B := 1000000) (by omega) (by omega)
  have x2 := mb_i (a := ab.1.toInt) (b := (ms_d p q).toInt) (A := 7000000000) (B := 1000000) (by omega) (by omega)
  have e1 : (ms_n p q * ab.2).toInt = (ms_n p q).toInt * ab.2.toInt := by
    rw [Int64.toInt_mul]
    exact Int.bmod_eq_of_le (by omega) (by omega)
  have e2 : (ab.1 * ms_d p q).toInt = ab.1.toInt * (ms_d p q).toInt := by
    rw [Int64.toInt_mul]
    exact Int.bmod_eq_of_le (by omega) (by omega)
  unfold ms_a
  by_cases z : ms_n p q * ab.2 < ab.1 * ms_d p q
  · rw [if_pos (Or.inr z)]
    rw [Int64.lt_iff_toInt_lt, e1, e2] at z
    have m : flq (ms_n p q, ms_d p q) ≤ flq ab := fl_mono (by omega) (by omega) (show (ms_n p q).toInt * ab.2.toInt ≤ ab.1.toInt * (ms_d p q).toInt by omega)
    refine ⟨⟨f1, f2⟩, ?_⟩
    split <;> omega
  · rw [if_neg (fun r => r.elim (fun r => absurd r (by decide)) z)]
    rw [Int64.lt_iff_toInt_lt, e1, e2] at z
    have m : flq ab ≤ flq (ms_n p q, ms_d p q) := fl_mono (by omega) (by omega) (show ab.1.toInt * (ms_d p q).toInt ≤ (ms_n p q).toInt * ab.2.toInt by omega)
    refine ⟨⟨h1, h2⟩, ?_⟩
    rw [if_neg (by omega)]
