/-! call: carrier -/
theorem zmin_ge {c x y : Int} : c ≤ zmin x y ↔ c ≤ x ∧ c ≤ y := by
  unfold zmin
  split <;> omega
theorem lp_i {a b : Nat → Int64} {n : Nat} {c : Int} : ∀ d k (m : Int64), c ≤ (ca_lp a b n d k m).toInt ↔ c ≤ m.toInt ∧ ∀ j, k ≤ j → j < k + d → c ≤ (ca_m a b n j).toInt
  | 0, k, m => ⟨fun h => ⟨h, fun j h1 h2 => absurd h2 (by omega)⟩, fun h => h.1⟩
  | d + 1, k, m => by
    show c ≤ (ca_lp a b n d (k + 1) (lmin m (ca_m a b n k))).toInt ↔ _
    rw [lp_i d (k + 1) _, lmin_im, zmin_ge]
    constructor
    · rintro ⟨⟨h1, h2⟩, h3⟩
      refine ⟨h1, fun j l1 l2 => ?_⟩
      by_cases z : j = k
      · rw [z]
        exact h2
      · exact h3 j (by omega) (by omega)
    · rintro ⟨h1, h2⟩
      exact ⟨⟨h1, h2 k (by omega) (by omega)⟩, fun j l1 l2 => h2 j (by omega) (by omega)⟩
theorem mn_ge {D A : Int32 → Int} {L : List Int32} {c : Int} : ∀ k, c ≤ mnI D A L k ↔ c ≤ 0 ∧ ∀ j, j < k → c ≤ D (lg L j) ∧ c ≤ D (lg L j) + A (lg L j)
  | 0 => ⟨fun h => ⟨h, fun j h2 => absurd h2 (by omega)⟩, fun h => h.1⟩
  | k + 1 => by
    show c ≤ zmin (mnI D A L k) (zmin (D (lg L k)) (D (lg L k) + A (lg L k))) ↔ _
    rw [zmin_ge, zmin_ge, mn_ge k]
    constructor
    · rintro ⟨⟨h1, h2⟩, h3⟩
      refine ⟨h1, fun j l1 => ?_⟩
      by_cases z : j = k
      · rw [z]
        exact h3
      · exact h2 j (by omega)
    · rintro ⟨h1, h2⟩
      exact ⟨⟨h1, fun j l1 => h2 j (by omega)⟩, h2 k (by omega)⟩
theorem mn_in {D A : Int32 → Int} {L : List Int32} {c : Int} (c0 : 0 ≤ c) (b : bd D A L c) : -(2 * c) ≤ mnI D A L L.length := by
  rcases mn_at (D := D) (A := A) (L := L) L.length with e | ⟨j, hj, e | e⟩
  · omega
  · have := b j hj
    omega
  · have := b j hj
    omega
section
variable {N : Nat → Int32} {T : tv}
theorem hz_vi (t : tls T N) (w : Int32) {L : List Int32} (h : lv_ok N w T.2.1 L) : (hz_v N w T.2.1).toInt = -(mnI (zDw N w T.2.1) (zAw N w T.2.1) L L.length) ∧ (-2000000000 ≤ mnI (zDw N w T.2.1) (zAw N w T.2.1) L L.length ∧ mnI (zDw N w T.2.1) (zAw N w T.2.1) L L.length ≤ 0) := by
  have ok : lv_ok N w T.2.1 (tw_L T w) := by
    rw [t.tw w]
    exact lv_ok_w t.k w
  obtain ⟨-, s2, s3⟩ := cf_0 t ok
  obtain ⟨-, -, r3⟩ := cf_0 t h
  have e := s3.u r3
  have b := mn_in (by decide) (bd_0 t.k w L)
  have b0 := mn_le0 (D := zDw N w T.2.1) (A := zAw N w T.2.1) (L := L) L.length
  refine ⟨?_, by omega, b0⟩
  rw [← (hw_v t w).2.1, Int64.toInt_neg, s2, e]
  exact Int.bmod_eq_of_le (by omega) (by omega)
/-- what the works' two bounds of a carrier say -/
theorem cm_i (t : tls T N) {w : Int32} {L : List Int32} (h : lv_ok N w T.2.1 L) {j : Nat} (hj : j < L.length) : (cf_su (tw_a T w L) (tw_b T w L) j + -(cf_mn (tw_a T w L) (tw_b T w L) L.length)).toInt = zDw N w T.2.1 (lg L j) - mnI (zDw N w T.2.1) (zAw N w T.2.1) L L.length ∧ (cf_su (tw_a T w L) (tw_b T w L) j + tw_a T w L j + -(cf_mn (tw_a T w L) (tw_b T w L) L.length)).toInt = zDw N w T.2.1 (lg L j) + zAw N w T.2.1 (lg L j) - mnI (zDw N w T.2.1) (zAw N w T.2.1) L L.length := by
  obtain ⟨s1, s2, s3⟩ := cf_0 t h
  have b := mn_in (by decide) (bd_0 t.k w L)
  have b0 := mn_le0 (D := zDw N w T.2.1) (A := zAw N w T.2.1) (L := L) L.length
  have bj := bd_0 t.k w L j hj
  have en : (-(cf_mn (tw_a T w L) (tw_b T w L) L.length)).toInt = -(mnI (zDw N w T.2.1) (zAw N w T.2.1) L L.length) := by
    rw [Int64.toInt_neg, s2]
    exact Int.bmod_eq_of_le (by omega) (by omega)
  constructor
  · rw [Int64.toInt_add, (s1 j hj).1, en, Int.bmod_eq_of_le (by omega) (by omega)]
    omega
  · rw [Int64.toInt_add, (s1 j hj).2, en, Int.bmod_eq_of_le (by omega) (by omega)]
    omega
theorem cam_i (t : tls T N) {w : Int32} {L : List Int32} (h : lv_ok N w T.2.1 L) {j : Nat} (hj : j < L.length) {c : Int} : c ≤ (ca_m (tw_a T w L) (tw_b T w L) L.length j).toInt ↔ c + mnI (zDw N w T.2.1) (zAw N w T.2.1) L L.length ≤ zDw N w T.2.1 (lg L j) ∧ c + mnI (zDw N w T.2.1) (zAw N w T.2.1) L L.length ≤ zDw N w T.2.1 (lg L j) + zAw N w T.2.1 (lg L j) := by
  obtain ⟨e1, e2⟩ := cm_i t h hj
  unfold ca_m
  rw [lmin_im, zmin_ge, e1, e2]
  constructor <;> intro q <;> omega
theorem mg_i (t : tls T N) {w v : Int32} {L : List Int32} (h : lv_ok N w T.2.1 L) (hm : v ∈ L) {c : Int} : c ≤ (ca_mg (tw_a T w L) (tw_b T w L) L v).toInt ↔ c + mnI (zDw N w T.2.1) (zAw N w T.2.1) L L.length ≤ zDw N w T.2.1 v + zAw N w T.2.1 v ∧ ∀ j, j < L.length → (lg L j).toInt < v.toInt → c + mnI (zDw N w T.2.1) (zAw N w T.2.1) L L.length ≤ zDw N w T.2.1 (lg L j) ∧ c + mnI (zDw N w T.2.1) (zAw N w T.2.1) L L.length ≤ zDw N w T.2.1 (lg L j) + zAw N w T.2.1 (lg L j) := by
  obtain ⟨p1, p2, p3⟩ := lv_p_at h.1 hm
  obtain ⟨-, e2⟩ := cm_i t h p1
  unfold ca_mg
  rw [if_pos p1, lp_i, e2, p2]
  constructor
  · rintro ⟨h1, h2⟩
    refine ⟨by omega, fun j hj l => ?_⟩
    have l2 : lv_p L v + 1 ≤ j := by
      by_cases z : j ≤ lv_p L v
      · have q := lv_le h.1 z p1
        have q2 : (lg L (lv_p L v)).toInt ≤ (lg L j).toInt := q
        rw [p2] at q2
        omega
      · omega
    exact (cam_i t h hj).mp (h2 j l2 (by omega))
  · rintro ⟨h1, h2⟩
    refine ⟨by omega, fun j l1 l2 => ?_⟩
    have hj : j < L.length := by omega
    have q : (lg L j).toInt < (lg L (lv_p L v)).toInt := ll_lt h.1 (by omega) hj
    rw [p2] at q
    exact (cam_i t h hj).mpr (h2 j hj q)
theorem mt_i (t : tls T N) {w v : Int32} {L : List Int32} (h : lv_ok N w T.2.1 L) (hm : v ∈ L) {c : Int} : c ≤ (ca_mt (tw_a T w L) (tw_b T w L) L v).toInt ↔ c + mnI (zDw N w T.2.1) (zAw N w T.2.1) L L.length ≤ zDw N w T.2.1 v ∧ ∀ j, j < L.length → v.toInt < (lg L j).toInt → c + mnI (zDw N w T.2.1) (zAw N w T.2.1) L L.length ≤ zDw N w T.2.1 (lg L j) ∧ c + mnI (zDw N w T.2.1) (zAw N w T.2.1) L L.length ≤ zDw N w T.2.1 (lg L j) + zAw N w T.2.1 (lg L j) := by
  obtain ⟨p1, p2, p3⟩ := lv_p_at h.1 hm
  obtain ⟨e1, -⟩ := cm_i t h p1
  unfold ca_mt
  rw [if_pos p1, lp_i, e1, p2]
  constructor
  · rintro ⟨h1, h2⟩
    refine ⟨by omega, fun j hj l => ?_⟩
    have l2 : j < lv_p L v := by
      by_cases z : lv_p L v ≤ j
      · have q := lv_le h.1 z hj
        have q2 : (lg L j).toInt ≤ (lg L (lv_p L v)).toInt := q
        rw [p2] at q2
        omega
      · omega
    exact (cam_i t h hj).mp (h2 j (by omega) (by omega))
  · rintro ⟨h1, h2⟩
    refine ⟨by omega, fun j l1 l2 => ?_⟩
    have hj : j < L.length := by omega
    have q : (lg L (lv_p L v)).toInt < (lg L j).toInt := ll_lt h.1 (by omega) p1
    rw [p2] at q
    exact (cam_i t h hj).mpr (h2 j hj q)
theorem tw_M_ok (t : tls T N) (w : Int32) {v : Int32} (hv2 : -200 ≤ v.toInt ∧ v.toInt ≤ 2000) : lv_ok N w T.2.1 (tw_M T w v) ∧ v ∈ tw_M T w v := by
  refine ⟨?_, lv_ins_mem.mpr (Or.inl rfl)⟩
  unfold tw_M
  rw [t.tw w]
  exact (lv_ok_w t.k w).ins hv2
theorem good_a (t : tls T N) (w : Int32) {v : Int32} (hv2 : -200 ≤ v.toInt ∧ v.toInt ≤ 2000) {q : Int64} (hq : 0 ≤ q.toInt ∧ q.toInt ≤ 2000000000) : rf_lw N w T.2.1 v (-q) 0 0 = hz_v N w T.2.1 ↔ q.toInt ≤ (ca_mg (tw_a T w (tw_M T w v)) (tw_b T w (tw_M T w v)) (tw_M T w v) v).toInt := by
  obtain ⟨ok, hm⟩ := tw_M_ok t w hv2
  have en : (-q).toInt = -q.toInt := by
    rw [Int64.toInt_neg]
    exact Int.bmod_eq_of_le (by omega) (by omega)
  obtain ⟨m, e1, e2, l⟩ := lw_1 t w v hv2 (-q) (by rw [en]; omega) 0
  rw [en] at e2 l
  obtain ⟨v1, v2, v3⟩ := hz_vi t w ok
  obtain ⟨-, -, l0⟩ := cf_0 t ok
  rw [mg_i t ok hm, e1]
  generalize tw_M T w v = L at *
  have lb : -8000000000 ≤ m.toInt := by
    have := mn_in (by decide) ((bd_0 t.k w L).x (e := 2000000000) (p := -q.toInt) (by omega) v)
    rw [e2]
    omega
  have em : (-m).toInt = -m.toInt := by
    have := l.1
    rw [Int64.toInt_neg]
    exact Int.bmod_eq_of_le (by omega) (by omega)
  rw [← Int64.toInt_inj, em, v1]
  have le : m.toInt ≤ mnI (zDw N w T.2.1) (zAw N w T.2.1) L L.length := by
    obtain ⟨-, -, a3⟩ := l0
    obtain ⟨b1, b2, -⟩ := l
    rcases a3 with a | ⟨x, a | a⟩
    · omega
    · have h1 := (b2 x).1
      have h2 : dx (zDw N w T.2.1) v (-q.toInt) x ≤ zDw N w T.2.1 x := by
        unfold dx
        split <;> omega
      omega
    · have h1 := (b2 x).2
      have h2 : dx (zDw N w T.2.1) v (-q.toInt) x ≤ zDw N w T.2.1 x := by
        unfold dx
        split <;> omega
      have h3 : ax (zAw N w T.2.1) v (-q.toInt) x ≤ zAw N w T.2.1 x := by
        unfold ax
        split <;> omega
      omega
  obtain ⟨p1, p2, p3⟩ := lv_p_at ok.1 hm
  constructor
  · intro h
    have g : mnI (zDw N w T.2.1) (zAw N w T.2.1) L L.length ≤ mnI (dx (zDw N w T.2.1) v (-q.toInt)) (ax (zAw N w T.2.1) v (-q.toInt)) L L.length := by
      rw [← e2]
      omega
    obtain ⟨-, g2⟩ := (mn_ge L.length).mp g
    constructor
    · have := (g2 _ p1).2
      rw [p2] at this
      unfold dx ax at this
      rw [if_neg (by omega), if_pos rfl] at this
      omega
    · intro j hj lt
      have := g2 j hj
      unfold dx ax at this
      rw [if_pos lt] at this
      have h3 : ¬ lg L j = v := fun r => by
        rw [r] at lt
        omega
      rw [if_neg h3] at this
      omega
  · rintro ⟨h1, h2⟩
    have g : mnI (zDw N w T.2.1) (zAw N w T.2.1) L L.length ≤ mnI (dx (zDw N w T.2.1) v (-q.toInt)) (ax (zAw N w T.2.1) v (-q.toInt)) L L.length := by
      refine (mn_ge L.length).mpr ⟨v3, fun j hj => ?_⟩
      have z0 := mn_le (D := zDw N w T.2.1) (A := zAw N w T.2.1) (L := L) L.length j hj
      unfold dx ax
      by_cases lt : (lg L j).toInt < v.toInt
      · have := h2 j hj lt
        have h3 : ¬ lg L j = v := fun r => by
          rw [r] at lt
          omega
        rw [if_pos lt, if_neg h3]
        omega
      · rw [if_neg lt]
        by_cases y : lg L j = v
        · rw [if_pos y, y]
          rw [y] at z0
          omega
        · rw [if_neg y]
          omega
    rw [← e2] at g
    omega
theorem good_b (t : tls T N) (w : Int32) {v : Int32} (hv2 : -200 ≤ v.toInt ∧ v.toInt ≤ 2000) {q : Int64} (hq : 0 ≤ q.toInt ∧ q.toInt ≤ 2000000000) : rf_lw N w T.2.1 v q 0 0 = hz_v N w T.2.1 - q ↔ q.toInt ≤ (ca_mt (tw_a T w (tw_M T w v)) (tw_b T w (tw_M T w v)) (tw_M T w v) v).toInt := by
  obtain ⟨ok, hm⟩ := tw_M_ok t w hv2
  obtain ⟨m, e1, e2, l⟩ := lw_1 t w v hv2 q (by omega) 0
  obtain ⟨v1, v2, v3⟩ := hz_vi t w ok
  obtain ⟨-, -, l0⟩ := cf_0 t ok
  have P := pf_z t ok
  rw [mt_i t ok hm, e1]
  generalize tw_M T w v = L at *
  have lb : -8000000000 ≤ m.toInt := by
    have := mn_in (by decide) ((bd_0 t.k w L).x (e := 2000000000) (p := q.toInt) (by omega) v)
    rw [e2]
    omega
  have em : (-m).toInt = -m.toInt := by
    have := l.1
    rw [Int64.toInt_neg]
    exact Int.bmod_eq_of_le (by omega) (by omega)
  have es : (hz_v N w T.2.1 - q).toInt = -(mnI (zDw N w T.2.1) (zAw N w T.2.1) L L.length) - q.toInt := by
    rw [Int64.toInt_sub, v1]
    exact Int.bmod_eq_of_le (by omega) (by omega)
  rw [← Int64.toInt_inj, em, es]
  have le : m.toInt ≤ mnI (zDw N w T.2.1) (zAw N w T.2.1) L L.length + q.toInt := by
    obtain ⟨-, -, a3⟩ := l0
    obtain ⟨b1, b2, -⟩ := l
    rcases a3 with a | ⟨x, a | a⟩
    · omega
    · have h1 := (b2 x).1
      have h2 : dx (zDw N w T.2.1) v q.toInt x ≤ zDw N w T.2.1 x + q.toInt := by
        unfold dx
        split <;> omega
      omega
    · have h1 := (b2 x).2
      have h2 : dx (zDw N w T.2.1) v q.toInt x + ax (zAw N w T.2.1) v q.toInt x ≤ zDw N w T.2.1 x + zAw N w T.2.1 x + q.toInt := by
        unfold dx ax
        by_cases y : x = v
        · rw [if_pos y, y, if_neg (by omega)]
          omega
        · rw [if_neg y]
          split <;> omega
      omega
  obtain ⟨p1, p2, p3⟩ := lv_p_at ok.1 hm
  have g0 : ∀ j, j < L.length → v.toInt < (lg L j).toInt → ¬ (lg L j).toInt < v.toInt ∧ ¬ lg L j = v := fun j _ lt => ⟨by omega, fun r => by rw [r] at lt; omega⟩
  constructor
  · intro h
    have g : mnI (zDw N w T.2.1) (zAw N w T.2.1) L L.length + q.toInt ≤ mnI (dx (zDw N w T.2.1) v q.toInt) (ax (zAw N w T.2.1) v q.toInt) L L.length := by
      rw [← e2]
      omega
    obtain ⟨-, g2⟩ := (mn_ge L.length).mp g
    constructor
    · have := (g2 _ p1).1
      rw [p2] at this
      unfold dx at this
      rw [if_neg (by omega)] at this
      omega
    · intro j hj lt
      have := g2 j hj
      unfold dx ax at this
      rw [if_neg (g0 j hj lt).1, if_neg (g0 j hj lt).2] at this
      omega
  · rintro ⟨h1, h2⟩
    have top : q.toInt + mnI (zDw N w T.2.1) (zAw N w T.2.1) L L.length ≤ 0 := by
      have d0 := P.2.2.2 (by omega)
      by_cases y : lg L 0 = v
      · rw [← y, d0] at h1
        exact h1
      · have y2 : ¬ (lg L 0).toInt = v.toInt := fun r => y (Int32.toInt_inj.mp r)
        have l2 : (lg L (lv_p L v)).toInt ≤ (lg L 0).toInt := lv_le ok.1 (Nat.zero_le _) p1
        rw [p2] at l2
        have := (h2 0 (by omega) (by omega)).1
        rw [d0] at this
        exact this
    have g : mnI (zDw N w T.2.1) (zAw N w T.2.1) L L.length + q.toInt ≤ mnI (dx (zDw N w T.2.1) v q.toInt) (ax (zAw N w T.2.1) v q.toInt) L L.length := by
      refine (mn_ge L.length).mpr ⟨by omega, fun j hj => ?_⟩
      have z0 := mn_le (D := zDw N w T.2.1) (A := zAw N w T.2.1) (L := L) L.length j hj
      unfold dx ax
      by_cases lt : v.toInt < (lg L j).toInt
      · have := h2 j hj lt
        rw [if_neg (g0 j hj lt).1, if_neg (g0 j hj lt).2]
        omega
      · by_cases y : lg L j = v
        · rw [if_pos y, if_neg (by rw [y]; omega), y]
          rw [y] at z0
          omega
        · have y2 : ¬ (lg L j).toInt = v.toInt := fun r => y (Int32.toInt_inj.mp r)
          rw [if_neg y, if_pos (show (lg L j).toInt < v.toInt by omega)]
          omega
    rw [← e2] at g
    omega
theorem bs_i {good : Int64 → Prop} [DecidablePred good] {c : Int} : ∀ (d : Nat) (lo hi : Int64), 0 ≤ lo.toInt → lo.toInt ≤ c → c ≤ hi.toInt → hi.toInt < 2 ^ 61 → hi.toInt ≤ lo.toInt + d → (∀ q : Int64, lo.toInt < q.toInt → q.toInt ≤ hi.toInt → (good q ↔ q.toInt ≤ c)) → (rf_bs good d lo hi).toInt = c
  | 0, lo, hi, h0, h1, h2, h3, h4, g => by
    show lo.toInt = c
    omega
  | d + 1, lo, hi, h0, h1, h2, h3, h4, g => by
    unfold rf_bs
    by_cases z : hi ≤ lo
    · rw [if_pos z]
      have := Int64.le_iff_toInt_le.mp z
      omega
    · rw [if_neg z]
      have z2 : ¬ hi.toInt ≤ lo.toInt := fun q => z (Int64.le_iff_toInt_le.mpr q)
      obtain ⟨e1, e2⟩ := rf_half h0 (by omega) h3
      have gm := g ((lo + hi + 1) / 2) (by omega) (by omega)
      by_cases y : good ((lo + hi + 1) / 2)
      · rw [if_pos y]
        have := gm.mp y
        exact bs_i d _ hi (by omega) (by omega) h2 h3 (by omega) (fun q l1 l2 => g q (by omega) l2)
      · rw [if_neg y]
        have : ¬ ((lo + hi + 1) / 2).toInt ≤ c := fun q => y (gm.mpr q)
        exact bs_i d lo _ h0 h1 (by omega) (by omega) (by omega) (fun q l1 l2 => g q l1 (by omega))
theorem tl_ca (t : tls T N) {a b v : Int32} (ok : rf_cok a b v) : tw_ca T a b v = rf_ca N T.2.1 a b v := by
  obtain ⟨o1, o2, o3, o4⟩ := ok
  obtain ⟨oka, hma⟩ := tw_M_ok t a o4
  obtain ⟨okb, hmb⟩ := tw_M_ok t b o4
  obtain ⟨v1, v2, v3⟩ := hz_vi t b okb
  have g0 : 0 ≤ (ca_mg (tw_a T a (tw_M T a v)) (tw_b T a (tw_M T a v)) (tw_M T a v) v).toInt := by
    refine (mg_i t oka hma).mpr ⟨?_, fun j hj _ => ?_⟩
    · obtain ⟨p1, p2, -⟩ := lv_p_at oka.1 hma
      have := (mn_le (D := zDw N a T.2.1) (A := zAw N a T.2.1) (L := tw_M T a v) _ _ p1).2
      rw [p2] at this
      omega
    · have := mn_le (D := zDw N a T.2.1) (A := zAw N a T.2.1) (L := tw_M T a v) _ _ hj
      omega
  have t0 : 0 ≤ (ca_mt (tw_a T b (tw_M T b v)) (tw_b T b (tw_M T b v)) (tw_M T b v) v).toInt := by
    refine (mt_i t okb hmb).mpr ⟨?_, fun j hj _ => ?_⟩
    · obtain ⟨p1, p2, -⟩ := lv_p_at okb.1 hmb
      have := (mn_le (D := zDw N b T.2.1) (A := zAw N b T.2.1) (L := tw_M T b v) _ _ p1).1
      rw [p2] at this
      omega
    · have := mn_le (D := zDw N b T.2.1) (A := zAw N b T.2.1) (L := tw_M T b v) _ _ hj
      omega
  have t1 : (ca_mt (tw_a T b (tw_M T b v)) (tw_b T b (tw_M T b v)) (tw_M T b v) v).toInt ≤ (hz_v N b T.2.1).toInt := by
    obtain ⟨h1, h2⟩ := (mt_i t okb hmb).mp (Int.le_refl _)
    obtain ⟨p1, p2, -⟩ := lv_p_at okb.1 hmb
    have d0 := (pf_z t okb).2.2.2 (by omega)
    rw [v1]
    by_cases y : lg (tw_M T b v) 0 = v
    · rw [← y, d0] at h1
      rw [y] at h1
      omega
    · have y2 : ¬ (lg (tw_M T b v) 0).toInt = v.toInt := fun r => y (Int32.toInt_inj.mp r)
      have l2 : (lg (tw_M T b v) (lv_p (tw_M T b v) v)).toInt ≤ (lg (tw_M T b v) 0).toInt := lv_le okb.1 (Nat.zero_le _) p1
      rw [p2] at l2
      have := (h2 0 (by omega) (by omega)).1
      rw [d0] at this
      omega
  unfold tw_ca rf_ca
  rw [if_pos ⟨o1, o2, o3, o4⟩]
  apply Int64.toInt_inj.mp
  rw [lmin_im]
  symm
  refine bs_i _ _ _ (by decide) ?_ ?_ (by rw [v1]; omega) (by rw [show (0 : Int64).toInt = 0 from rfl]; omega) (fun q l1 l2 => ?_)
  · rw [show (0 : Int64).toInt = 0 from rfl, zmin_ge]
    exact ⟨g0, t0⟩
  · have := (zmin_le (ca_mg (tw_a T a (tw_M T a v)) (tw_b T a (tw_M T a v)) (tw_M T a v) v).toInt (ca_mt (tw_a T b (tw_M T b v)) (tw_b T b (tw_M T b v)) (tw_M T b v) v).toInt).2
    omega
  · rw [show (0 : Int64).toInt = 0 from rfl] at l1
    rw [v1] at l2
    rw [zmin_ge]
    exact and_congr (good_a t a o4 (by omega)) (good_b t b o4 (by omega))
end
section
variable {L : Nat} {xs : Nat → Int32}
theorem op_carrier (a b v : Int32) : lw_o (lw_K L xs) L xs 128 190 [.int a, .int b, .int v] false := by
  intro k h p
  obtain ⟨W, g, nx, s, X, R, B, D, U, x, T, I⟩ := p
  obtain ⟨W2, t, f⟩ := kc_carrier nx s I.cn a b v
  obtain ⟨v1, v2, v3⟩ := hz_vi I.tl b (lv_ok_w I.tl.k b)
  obtain ⟨R2, r, j⟩ := rc_carrier 56 I.pre a b v (by rw [v1]; omega) (by rw [v1]; omega)
  by_cases q : rf_cok a b v
  · rw [if_pos q, tl_ca I.tl q] at t
    exact lw_ask I (Or.inr ⟨rfl, _, rfl⟩) t f.Q r j
  · rw [if_neg q] at t
    unfold rf_ca at r
    rw [if_neg q] at r
    exact lw_ask I (Or.inr ⟨rfl, _, rfl⟩) t f.Q r j
end
