/-! the works' heaps -/
def nz_st (c t : Int32) (q : Int32 × Int32) : Int32 × Int32 := if q.1 ≤ c then q else (bc_u q.1 t, q.2 + t)
def nz_r (q : Int32 × Int32) : Int32 := q.2 + bc_u q.1 1
def nz_x (x : Int32) : Int32 := (x ^^^ -1) &&& (x - 1)
def nz_e (x : Int32) : Int32 := if 0 < nz_x x then nz_r (nz_st 4 2 (nz_st 16 4 (nz_st 256 8 (nz_st 65536 16 (nz_x x, 1))))) else nz_x x &&& 32
/-- the place of the lowest bit -/
def nz_p : Nat → Nat → Nat
  | 0, _ => 0
  | f + 1, m => if m % 2 = 1 then 0 else nz_p f (m / 2) + 1
def nz_ok (m : Nat) : Bool := decide (m = 0) || (decide (nz_e (nI m) = nI (nz_p 13 m)) && decide (nI m &&& -(nI m) = nI (2 ^ nz_p 13 m)) && m.testBit (nz_p 13 m) && decide (nz_p 13 m < 13))
theorem nz_all : ∀ a : Fin 128, ∀ b : Fin 64, nz_ok (64 * a.1 + b.1) = true := by decide +kernel
theorem nz_is {m : Nat} (h0 : m ≠ 0) (h : m < 8192) : nz_e (nI m) = nI (nz_p 13 m) ∧ nI m &&& -(nI m) = nI (2 ^ nz_p 13 m) ∧ m.testBit (nz_p 13 m) = true ∧ nz_p 13 m < 13 := by
  have := nz_all ⟨m / 64, by omega⟩ ⟨m % 64, by omega⟩
  dsimp only at this
  rw [show 64 * (m / 64) + m % 64 = m by omega] at this
  unfold nz_ok at this
  rw [decide_eq_false h0, Bool.false_or] at this
  simp only [Bool.and_eq_true, decide_eq_true_eq] at this
  exact ⟨this.1.1.1, this.1.1.2, this.1.2, this.2⟩
theorem kc_ntzE (h : jx_H) (x : Int32) : jx_T 206 0 (jx_ent 206 [.int x]) [] h (some (.int (nz_e x))) h := by
  show jx_T 206 0 [.int x, .retAddr 0] [] _ _ _
  unfold nz_e
  refine jx_T.step (pc' := 1) (st' := [_]) rfl rfl ?_
  refine jx_T.step (pc' := 2) (st' := [_, _]) rfl rfl ?_
  refine jx_T.step (pc' := 3) (st' := [_]) rfl rfl ?_
  refine jx_T.step (pc' := 4) (st' := [_, _]) rfl rfl ?_
  refine jx_T.step (pc' := 5) (st' := [_, _, _]) rfl rfl ?_
  refine jx_T.step (pc' := 6) (st' := [_, _]) rfl rfl ?_
  refine jx_T.step (pc' := 7) (st' := [_]) rfl rfl ?_
  show jx_T 206 7 [.int x, .retAddr 0] [.int (nz_x x)] _ _ _
  generalize nz_x x = y
  refine jx_T.step (pc' := 8) (ls' := [_, _]) (st' := []) rfl rfl ?_
  refine jx_T.step (pc' := 9) (st' := [_]) rfl rfl ?_
  by_cases z : 0 < y
  · rw [if_pos z]
    refine cl.br rfl (jx_br_gt _ _) (fun _ => ?_) (fun zq => absurd (z) zq)
    refine jx_T.step (pc' := 18) (st' := [_]) rfl rfl ?_
    refine jx_T.step (pc' := 19) (ls' := [_, _]) (st' := []) rfl rfl ?_
    have t1 : ∀ q : Int32 × Int32, jx_T 206 74 [.int q.1, .int q.2] [] h (some (.int (nz_r q))) h := by
      intro q
      refine jx_T.step (pc' := 75) (st' := [_]) rfl rfl ?_
      refine jx_T.step (pc' := 76) (st' := [_, _]) rfl rfl ?_
      refine jx_T.step (pc' := 77) (st' := [_, _, _]) rfl rfl ?_
      refine jx_T.step (pc' := 78) (st' := [_, _]) rfl rfl ?_
      refine jx_T.step (pc' := 79) (st' := [_]) rfl rfl ?_
      exact jx_T.ret rfl rfl
    have t2 : ∀ q : Int32 × Int32, jx_T 206 62 [.int q.1, .int q.2] [] h (some (.int (nz_r (nz_st 4 2 q)))) h := by
      intro q
      unfold nz_st
      refine jx_T.step (pc' := 63) (st' := [_]) rfl rfl ?_
      refine jx_T.step (pc' := 64) (st' := [_, _]) rfl rfl ?_
      by_cases z : q.1 ≤ 4
      · rw [if_pos z]
        refine cl.bc rfl (jx_br_le _ _) (fun _ => ?_) (fun zq => absurd (z) zq)
        exact t1 q
      · rw [if_neg z]
        refine cl.bc rfl (jx_br_le _ _) (fun zq => absurd zq (z)) (fun _ => ?_)
        refine jx_T.step (pc' := 70) (ls' := [_, _]) (st' := []) rfl rfl ?_
        refine jx_T.step (pc' := 71) (st' := [_]) rfl rfl ?_
        refine jx_T.step (pc' := 72) (st' := [_, _]) rfl rfl ?_
        refine jx_T.step (pc' := 73) (st' := [_]) rfl rfl ?_
        refine jx_T.step (pc' := 74) (ls' := [_, _]) (st' := []) rfl rfl ?_
        exact t1 (bc_u q.1 2, q.2 + 2)
    have t3 : ∀ q : Int32 × Int32, jx_T 206 49 [.int q.1, .int q.2] [] h (some (.int (nz_r (nz_st 4 2 (nz_st 16 4 q))))) h := by
      intro q
      rw [show nz_st 16 4 q = if q.1 ≤ 16 then q else (bc_u q.1 4, q.2 + 4) from rfl]
      refine jx_T.step (pc' := 50) (st' := [_]) rfl rfl ?_
      refine jx_T.step (pc' := 52) (st' := [_, _]) rfl rfl ?_
      by_cases z : q.1 ≤ 16
      · rw [if_pos z]
        refine cl.bc rfl (jx_br_le _ _) (fun _ => ?_) (fun zq => absurd (z) zq)
        exact t2 q
      · rw [if_neg z]
        refine cl.bc rfl (jx_br_le _ _) (fun zq => absurd zq (z)) (fun _ => ?_)
        refine jx_T.step (pc' := 58) (ls' := [_, _]) (st' := []) rfl rfl ?_
        refine jx_T.step (pc' := 59) (st' := [_]) rfl rfl ?_
        refine jx_T.step (pc' := 60) (st' := [_, _]) rfl rfl ?_
        refine jx_T.step (pc' := 61) (st' := [_]) rfl rfl ?_
        refine jx_T.step (pc' := 62) (ls' := [_, _]) (st' := []) rfl rfl ?_
        exact t2 (bc_u q.1 4, q.2 + 4)
    have t4 : ∀ q : Int32 × Int32, jx_T 206 34 [.int q.1, .int q.2] [] h (some (.int (nz_r (nz_st 4 2 (nz_st 16 4 (nz_st 256 8 q)))))) h := by
      intro q
      rw [show nz_st 256 8 q = if q.1 ≤ 256 then q else (bc_u q.1 8, q.2 + 8) from rfl]
      refine jx_T.step (pc' := 35) (st' := [_]) rfl rfl ?_
      refine jx_T.step (pc' := 38) (st' := [_, _]) rfl rfl ?_
      by_cases z : q.1 ≤ 256
      · rw [if_pos z]
        refine cl.bc rfl (jx_br_le _ _) (fun _ => ?_) (fun zq => absurd (z) zq)
        exact t3 q
      · rw [if_neg z]
        refine cl.bc rfl (jx_br_le _ _) (fun zq => absurd zq (z)) (fun _ => ?_)
        refine jx_T.step (pc' := 44) (ls' := [_, _]) (st' := []) rfl rfl ?_
        refine jx_T.step (pc' := 45) (st' := [_]) rfl rfl ?_
        refine jx_T.step (pc' := 47) (st' := [_, _]) rfl rfl ?_
        refine jx_T.step (pc' := 48) (st' := [_]) rfl rfl ?_
        refine jx_T.step (pc' := 49) (ls' := [_, _]) (st' := []) rfl rfl ?_
        exact t3 (bc_u q.1 8, q.2 + 8)
    rw [show nz_st 65536 16 (y, 1) = if y ≤ 65536 then (y, 1) else (bc_u y 16, 1 + 16) from rfl]
    refine jx_T.step (pc' := 20) (st' := [_]) rfl rfl ?_
    refine jx_T.step (pc' := 23) (st' := [_, _]) rfl rfl ?_
    by_cases z : y ≤ 65536
    · rw [if_pos z]
      refine cl.bc rfl (jx_br_le _ _) (fun _ => ?_) (fun zq => absurd (z) zq)
      exact t4 (y, 1)
    · rw [if_neg z]
      refine cl.bc rfl (jx_br_le _ _) (fun zq => absurd zq (z)) (fun _ => ?_)
      refine jx_T.step (pc' := 29) (ls' := [_, _]) (st' := []) rfl rfl ?_
      refine jx_T.step (pc' := 30) (st' := [_]) rfl rfl ?_
      refine jx_T.step (pc' := 32) (st' := [_, _]) rfl rfl ?_
      refine jx_T.step (pc' := 33) (st' := [_]) rfl rfl ?_
      refine jx_T.step (pc' := 34) (ls' := [_, _]) (st' := []) rfl rfl ?_
      exact t4 (bc_u y 16, 1 + 16)
  · rw [if_neg z]
    refine cl.br rfl (jx_br_gt _ _) (fun zq => absurd zq (z)) (fun _ => ?_)
    refine jx_T.step (pc' := 13) (st' := [_]) rfl rfl ?_
    refine jx_T.step (pc' := 15) (st' := [_, _]) rfl rfl ?_
    refine jx_T.step (pc' := 16) (st' := [_]) rfl rfl ?_
    exact jx_T.ret rfl rfl
theorem kc_ntz (h : jx_H) {m : Nat} (h0 : m ≠ 0) (hm : m < 8192) : jx_T 206 0 (jx_ent 206 [.int (nI m)]) [] h (some (.int (nI (nz_p 13 m)))) h := by
  rw [← (nz_is h0 hm).1]
  exact kc_ntzE h _
theorem mx_I {a b : Nat} (ha : a < 2 ^ 31) (hb : b < 2 ^ 31) : (if nI a < nI b then nI b else nI a) = nI (max a b) := by
  rcases Nat.lt_or_ge a b with z | z
  · rw [if_pos (nI_lt z hb), Nat.max_eq_right (by omega)]
  · rw [if_neg (Int32.not_lt.mpr (nI_le z ha)), Nat.max_eq_left z]
theorem by_I {t : Nat} (h : t < 16) : vp_nar .byte ((nI t).toInt8.toInt32) = nI t := (by decide : ∀ t : Fin 16, vp_nar .byte ((nI t.1).toInt8.toInt32) = nI t.1) ⟨t, h⟩
theorem cw_Ae (W : cw) (k : Nat) (f : Nat → Int32) : (cw_A W k f).1 k = f := by simp [cw_A]
theorem cw_An (W : cw) (k : Nat) (f : Nat → Int32) {j : Nat} (h : j ≠ k) : (cw_A W k f).1 j = W.1 j := by simp [cw_A, h]
theorem cw_Be (W : cw) (k : Nat) (f : Nat → Int64) : (cw_B W k f).2.1 k = f := by simp [cw_B]
theorem cw_Bn (W : cw) (k : Nat) (f : Nat → Int64) {j : Nat} (h : j ≠ k) : (cw_B W k f).2.1 j = W.2.1 j := by simp [cw_B, h]
/-- all but the heaps' rows stays -/
def kh_f (W W2 : cw) : Prop := (∀ k, k ≠ 18 → W2.1 k = W.1 k) ∧ (∀ k, k ≠ 16 → k ≠ 17 → W2.2.1 k = W.2.1 k) ∧ (∀ k y, ¬ (k = 15 ∧ y = 3) → W2.2.2.1 k y = W.2.2.1 k y) ∧ W2.2.2.2 = W.2.2.2
theorem kh_f.rf {W : cw} : kh_f W W := ⟨fun _ _ => rfl, fun _ _ _ => rfl, fun _ _ _ => rfl, rfl⟩
theorem kh_f.tr {W W2 W3 : cw} (a : kh_f W W2) (b : kh_f W2 W3) : kh_f W W3 := ⟨fun k h => (b.1 k h).trans (a.1 k h), fun k h g => (b.2.1 k h g).trans (a.2.1 k h g), fun k y h => (b.2.2.1 k y h).trans (a.2.2.1 k y h), b.2.2.2.trans a.2.2.2⟩
theorem kh_f.A {W : cw} {f : Nat → Int32} : kh_f W (cw_A W 18 f) := ⟨fun _ h => if_neg h, fun _ _ _ => rfl, fun _ _ _ => rfl, rfl⟩
theorem kh_f.B {W : cw} {k : Nat} {f : Nat → Int64} (h : k = 16 ∨ k = 17) : kh_f W (cw_B W k f) := ⟨fun _ _ => rfl, fun j h1 h2 => if_neg (by omega), fun _ _ _ => rfl, rfl⟩
theorem kh_f.I {W : cw} {v : Int32} : kh_f W (cw_I W 15 3 v) := ⟨fun _ _ => rfl, fun _ _ _ => rfl, fun _ _ h => if_neg h, rfl⟩
/-- the heats that are told -/
def kh_I (W : cw) (l : List Int64) : Prop := W.2.2.1 15 3 = nI l.length ∧ ∀ k, k < l.length → W.2.1 16 k = l.getD k 0
section
variable {g : Nat → Option jx_E} {nx s : Nat}
theorem kc_hclear (W : cw) : jx_T 14 0 (jx_ent 14 [.ref 15]) [] (hc W g nx s) none (hc (cw_I W 15 3 0) g nx s) := by
  show jx_T 14 0 [.ref 15] [] _ _ _
  refine jx_T.step (pc' := 1) (st' := [_]) rfl rfl ?_
  refine jx_T.step (pc' := 2) (st' := [_, _]) rfl rfl ?_
  refine cl.put 15 (by decide) rfl (cw_c15 _) (Nat.le_of_ble_eq_true rfl) rfl (cw_f15_3 _ _) ?_
  exact jx_T.ret rfl rfl
theorem kh_I.nil (W : cw) : kh_I (cw_I W 15 3 0) [] := ⟨rfl, fun _ h => absurd h (by simp)⟩
theorem kc_hadd (W : cw) (l : List Int64) (I : kh_I W l) (hl : l.length < 14) (v : Int64) : ∃ W2, jx_T 15 0 (jx_ent 15 [.ref 15, .long v]) [] (hc W g nx s) none (hc W2 g nx s) ∧ kh_I W2 (fw_add l v) ∧ kh_f W W2 := by
  unfold fw_add
  by_cases z : v = 0
  · refine ⟨W, ?_, by rw [if_pos z]; exact I, kh_f.rf⟩
    show jx_T 15 0 [.ref 15, .long v, .retAddr 0] [] _ _ _
    refine jx_T.step (pc' := 1) (st' := [_]) rfl rfl ?_
    refine jx_T.step (pc' := 2) (st' := [_, _]) rfl rfl ?_
    refine jx_T.step (pc' := 3) (st' := [_]) rfl rfl ?_
    refine cl.br rfl (jx_br_eq _ _) (fun _ => ?_) (fun zq => absurd ((lg_cmp_eq0 _ _).mpr z) zq)
    exact jx_T.ret rfl rfl
  · refine ⟨cw_I (cw_B W 16 (vp_updL (W.2.1 16) l.length v)) 15 3 (nI (l.length + 1)), ?_, ?_, (kh_f.B (Or.inl rfl)).tr kh_f.I⟩
    · show jx_T 15 0 [.ref 15, .long v, .retAddr 0] [] _ _ _
      refine jx_T.step (pc' := 1) (st' := [_]) rfl rfl ?_
      refine jx_T.step (pc' := 2) (st' := [_, _]) rfl rfl ?_
      refine jx_T.step (pc' := 3) (st' := [_]) rfl rfl ?_
      refine cl.br rfl (jx_br_eq _ _) (fun zq => absurd zq (fun q => z ((lg_cmp_eq0 _ _).mp q))) (fun _ => ?_)
      refine jx_T.step (pc' := 7) (st' := [_]) rfl rfl ?_
      refine cl.get 15 (by decide) rfl (cw_c15 _) rfl ?_
      refine jx_T.step (pc' := 12) (st' := [_, _]) rfl rfl ?_
      rw [I.1, rf_lit 14]
      refine cl.bc rfl (jx_br_ge _ _) (fun zq => absurd zq (nI_ge hl (by omega))) (fun _ => ?_)
      refine jx_T.step (pc' := 16) (st' := [_]) rfl rfl ?_
      refine cl.get 15 (by decide) rfl (cw_c15 _) rfl ?_
      refine jx_T.step (pc' := 20) (st' := [_, _]) rfl rfl ?_
      refine cl.get 15 (by decide) rfl (cw_c15 _) rfl ?_
      rw [I.1]
      refine jx_T.step (pc' := 24) (st' := [_, _, _]) rfl rfl ?_
      refine cl.last 16 (by decide) rfl (cw_c16 _) (cw_s16 _) (rf_ix hl (by decide)) ?_
      rw [nI_clamp (by omega)]
      refine jx_T.step (pc' := 26) (st' := [_]) rfl rfl ?_
      refine jx_T.step (pc' := 27) (st' := [_, _]) rfl rfl ?_
      refine cl.get 15 (by decide) rfl (cw_c15 _) rfl ?_
      rw [show (cw_B W 16 (vp_updL (W.2.1 16) l.length v)).2.2.1 15 3 = nI l.length from I.1]
      refine jx_T.step (pc' := 31) (st' := [_, _, _]) rfl rfl ?_
      refine jx_T.step (pc' := 32) (st' := [_, _]) rfl rfl ?_
      rw [nI_1]
      refine cl.put 15 (by decide) rfl (cw_c15 _) (Nat.le_of_ble_eq_true rfl) rfl (cw_f15_3 _ _) ?_
      exact jx_T.ret rfl rfl
    · rw [if_neg z]
      refine ⟨?_, fun k hk => ?_⟩
      · rw [List.length_append]
        rfl
      · rw [List.length_append] at hk
        have hk2 : k < l.length + 1 := hk
        show vp_updL (W.2.1 16) l.length v k = _
        unfold vp_updL
        by_cases e : k = l.length
        · rw [if_pos e, e]
          simp
        · rw [if_neg e, I.2 k (by omega)]
          simp [List.getD_eq_getElem?_getD, List.getElem?_append_left (show k < l.length by omega)]
theorem kc_bestWO (W : cw) (m n : Nat) (hm : m < 8192) (hn : n ≤ 13) (T : Nat → Nat) (hT : ∀ k, k < n → m.testBit k = true → W.1 18 (m ^^^ 2 ^ k) = nI (T (m ^^^ 2 ^ k)) ∧ T (m ^^^ 2 ^ k) ≤ 13) : jx_T 17 0 (jx_ent 17 [.ref 15, .int (nI m), .int (nI n)]) [] (hc W g nx s) (some (.int (nI (ph_in T m n)))) (hc W g nx s) := by
  have bd : ∀ k, k ≤ n → ph_in T m k ≤ 13 := by
    intro k
    induction k with
    | zero => intro _; exact Nat.zero_le _
    | succ k ih =>
      intro hk
      unfold ph_in
      by_cases q : m.testBit k = true
      · rw [if_pos q]
        exact Nat.max_le.mpr ⟨ih (by omega), (hT k (by omega) q).2⟩
      · rw [if_neg q]
        exact ih (by omega)
  have loop : ∀ d k, k + d = n → jx_T 17 5 [.ref 15, .int (nI m), .int (nI n), .int (nI (ph_in T m k)), .int (nI k)] [] (hc W g nx s) (some (.int (nI (ph_in T m n)))) (hc W g nx s) := by
    intro d
    induction d with
    | zero =>
      intro k hk
      obtain rfl : k = n := by omega
      refine jx_T.step (pc' := 7) (st' := [_]) rfl rfl ?_
      refine jx_T.step (pc' := 8) (st' := [_, _]) rfl rfl ?_
      refine cl.bc rfl (jx_br_ge _ _) (fun _ => ?_) (fun zq => absurd (Int32.le_refl _) zq)
      refine jx_T.step (pc' := 44) (st' := [_]) rfl rfl ?_
      exact jx_T.ret rfl rfl
    | succ d ih =>
      intro k hk
      have nxt := ih (k + 1) (by omega)
      have b := bd k (by omega)
      rw [show ph_in T m (k + 1) = if m.testBit k = true then max (ph_in T m k) (T (m ^^^ 2 ^ k)) else ph_in T m k from rfl] at nxt
      refine jx_T.step (pc' := 7) (st' := [_]) rfl rfl ?_
      refine jx_T.step (pc' := 8) (st' := [_, _]) rfl rfl ?_
      refine cl.bc rfl (jx_br_ge _ _) (fun zq => absurd zq (nI_ge (by omega) (by omega))) (fun _ => ?_)
      refine jx_T.step (pc' := 12) (st' := [_]) rfl rfl ?_
      refine jx_T.step (pc' := 14) (st' := [_, _]) rfl rfl ?_
      refine jx_T.step (pc' := 15) (st' := [_]) rfl rfl ?_
      refine jx_T.step (pc' := 16) (st' := [_, _]) rfl rfl ?_
      refine jx_T.step (pc' := 17) (st' := [_]) rfl rfl ?_
      rw [bt_test (by omega) (by omega)]
      refine jx_T.step (pc' := 18) (st' := [_, _]) rfl rfl ?_
      by_cases q : m.testBit k = true
      · obtain ⟨h1, h2⟩ := hT k (by omega) q
        have lt := bt_lt q
        rw [if_pos q] at nxt ⊢
        refine cl.bcn rfl (fun zq => absurd (rfl) zq) (fun _ => ?_)
        refine jx_T.step (pc' := 22) (st' := [_]) rfl rfl ?_
        refine jx_T.step (pc' := 23) (st' := [_, _]) rfl rfl ?_
        refine cl.get 15 (by decide) rfl (cw_c15 _) rfl ?_
        refine jx_T.step (pc' := 27) (st' := [_, _, _]) rfl rfl ?_
        refine jx_T.step (pc' := 28) (st' := [_, _, _, _]) rfl rfl ?_
        refine jx_T.step (pc' := 30) (st' := [_, _, _, _, _]) rfl rfl ?_
        refine jx_T.step (pc' := 31) (st' := [_, _, _, _]) rfl rfl ?_
        rw [bt_shl (by omega)]
        refine jx_T.step (pc' := 32) (st' := [_, _, _]) rfl rfl ?_
        rw [bt_xor]
        refine cl.bald 18 (by decide) rfl (cw_c18 _) (Or.inl rfl) (rf_ix (by omega) (by decide)) ?_
        rw [nI_clamp (by omega), h1]
        refine cl.s2I rfl (by decide) rfl (Nat.le_of_ble_eq_true rfl) (Nat.le_of_ble_eq_true rfl) (kc_max _ _ _) ?_
        rw [mx_I (by omega) (by omega)]
        refine jx_T.step (pc' := 37) (ls' := [_, _, _, _, _]) (st' := []) rfl rfl ?_
        refine jx_T.step (pc' := 40) (ls' := [_, _, _, _, _]) (st' := []) rfl rfl ?_
        refine jx_T.step (pc' := 5) (st' := []) rfl rfl ?_
        rw [nI_1]
        exact nxt
      · rw [if_neg q] at nxt ⊢
        refine cl.bcn rfl (fun _ => ?_) (fun zq => absurd zq (by decide))
        refine jx_T.step (pc' := 40) (ls' := [_, _, _, _, _]) (st' := []) rfl rfl ?_
        refine jx_T.step (pc' := 5) (st' := []) rfl rfl ?_
        rw [nI_1]
        exact nxt
  show jx_T 17 0 [.ref 15, .int (nI m), .int (nI n), .retAddr 0, .retAddr 0] [] _ _ _
  refine jx_T.step (pc' := 1) (st' := [_]) rfl rfl ?_
  refine jx_T.step (pc' := 2) (ls' := [_, _, _, _, _]) (st' := []) rfl rfl ?_
  refine jx_T.step (pc' := 3) (st' := [_]) rfl rfl ?_
  refine jx_T.step (pc' := 5) (ls' := [_, _, _, _, _]) (st' := []) rfl rfl ?_
  exact loop n 0 (by omega)
def hp_ans (l : List Int64) : Int32 := if l.length = 0 then 0 else nI (ph l (l.length - 1) (2 ^ (l.length - 1) - 1)) + 1
theorem kc_mostHeaps (W : cw) (l : List Int64) (I : kh_I W l) (hl : l.length ≤ 14) : ∃ W2, jx_T 16 0 (jx_ent 16 [.ref 15]) [] (hc W g nx s) (some (.int (hp_ans l))) (hc W2 g nx s) ∧ kh_f W W2 := by
  unfold hp_ans
  by_cases h0 : l.length = 0
  · refine ⟨W, ?_, kh_f.rf⟩
    rw [if_pos h0]
    show jx_T 16 0 [.ref 15, .retAddr 0, .retAddr 0, .retAddr 0, .retAddr 0, .retAddr 0] [] _ _ _
    refine jx_T.step (pc' := 1) (st' := [_]) rfl rfl ?_
    refine cl.get 15 (by decide) rfl (cw_c15 _) rfl ?_
    rw [I.1, h0]
    refine cl.brn rfl (fun zq => absurd (rfl) zq) (fun _ => ?_)
    refine jx_T.step (pc' := 8) (st' := [_]) rfl rfl ?_
    exact jx_T.ret rfl rfl
  · rw [if_neg h0]
    obtain ⟨n, hn⟩ : ∃ n, l.length = n + 1 := ⟨l.length - 1, by omega⟩
    rw [show l.length - 1 = n by omega]
    have h13 : 2 ^ n ≤ 2 ^ 13 := Nat.pow_le_pow_right (by decide) (by omega)
    have h8 : (2 : Nat) ^ 13 = 8192 := by decide
    have hp : 0 < 2 ^ n := Nat.two_pow_pos n
    have loop : ∀ d m, m + d = 2 ^ n → 1 ≤ m → ∀ (W1 : cw) (u4 u5 : Value), kh_f W W1 → W1.2.1 16 = W.2.1 16 → (∀ j, j < m → W1.2.1 17 j = hs l j n ∧ W1.1 18 j = nI (ph l n j)) → ∃ W2, jx_T 16 36 [.ref 15, .int (nI n), .int (nI (2 ^ n)), .int (nI m), u4, u5] [] (hc W1 g nx s) (some (.int (nI (ph l n (2 ^ n - 1)) + 1))) (hc W2 g nx s) ∧ kh_f W W2 := by
      intro d
      induction d with
      | zero =>
        intro m hm h1 W1 u4 u5 kf e16 tb
        obtain rfl : m = 2 ^ n := by omega
        refine ⟨W1, ?_, kf⟩
        refine jx_T.step (pc' := 37) (st' := [_]) rfl rfl ?_
        refine jx_T.step (pc' := 38) (st' := [_, _]) rfl rfl ?_
        refine cl.bc rfl (jx_br_ge _ _) (fun _ => ?_) (fun zq => absurd (Int32.le_refl _) zq)
        refine jx_T.step (pc' := 121) (st' := [_]) rfl rfl ?_
        refine cl.get 15 (by decide) rfl (cw_c15 _) rfl ?_
        refine jx_T.step (pc' := 125) (st' := [_, _]) rfl rfl ?_
        refine jx_T.step (pc' := 126) (st' := [_, _, _]) rfl rfl ?_
        refine jx_T.step (pc' := 127) (st' := [_, _]) rfl rfl ?_
        rw [rf_lit 1, rf_nsub (by omega)]
        refine cl.bald 18 (by decide) rfl (cw_c18 _) (Or.inl rfl) (rf_ix (by omega) (by decide)) ?_
        rw [nI_clamp (by omega), (tb _ (by omega)).2]
        refine jx_T.step (pc' := 129) (st' := [_, _]) rfl rfl ?_
        refine jx_T.step (pc' := 130) (st' := [_]) rfl rfl ?_
        exact jx_T.ret rfl rfl
      | succ d ih =>
        intro m hm h1 W1 u4 u5 kf e16 tb
        obtain ⟨z1, z2, z3, z4⟩ := nz_is (m := m) (by omega) (by omega)
        have zn : nz_p 13 m < n := by
          refine Classical.byContradiction (fun q => ?_)
          rw [Nat.testBit_lt_two_pow (Nat.lt_of_lt_of_le (show m < 2 ^ n by omega) (Nat.pow_le_pow_right (by decide) (by omega)))] at z3
          exact absurd z3 (by decide)
        have lt := bt_lt z3
        obtain ⟨W2, e2⟩ : ∃ W2, W2 = cw_B W1 17 (vp_updL (W1.2.1 17) m (hs l m n)) := ⟨_, rfl⟩
        have k2 : kh_f W1 W2 := by rw [e2]; exact kh_f.B (Or.inr rfl)
        have s2 : W2.2.1 17 = vp_updL (W1.2.1 17) m (hs l m n) := by rw [e2]; exact cw_Be _ _ _
        have s3 : W2.1 = W1.1 := by rw [e2]; rfl
        have s4 : W2.2.1 16 = W1.2.1 16 := by rw [e2]; exact cw_Bn _ _ _ (by decide)
        have s5 : W2.2.2 = W1.2.2 := by rw [e2]; rfl
        have pl : ph l n m ≤ n := ph_le l n (by omega)
        have cb := kc_bestWO (g := g) (nx := nx) (s := s) W2 m n (by omega) (by omega) (ph l n) (fun k hk hb => by
          have := bt_lt hb
          rw [s3]
          refine ⟨(tb _ this).2, ?_⟩
          have := ph_le l n (m := m ^^^ 2 ^ k) (by omega)
          omega)
        obtain ⟨W3, e3⟩ : ∃ W3, W3 = cw_A W2 18 (upd (W2.1 18) m (nI (ph l n m))) := ⟨_, rfl⟩
        have k3 : kh_f W2 W3 := by rw [e3]; exact kh_f.A
        obtain ⟨W4, t4, k4⟩ := ih (m + 1) (by omega) (by omega) W3 (.int (nI (2 ^ nz_p 13 m))) (.int (nI (ph_in (ph l n) m n))) (kf.tr (k2.tr k3)) (by rw [e3]; exact s4.trans e16) (fun j hj => by
          have a1 : W3.2.1 17 = vp_updL (W1.2.1 17) m (hs l m n) := by rw [e3]; exact s2
          have a2 : W3.1 18 = upd (W1.1 18) m (nI (ph l n m)) := by rw [e3, s3]; exact cw_Ae _ _ _
          rw [a1, a2]
          unfold vp_updL upd
          by_cases e : j = m
          · rw [if_pos e, if_pos e, e]
            exact ⟨rfl, rfl⟩
          · rw [if_neg e, if_neg e]
            exact tb j (by omega))
        refine ⟨W4, ?_, k4⟩
        have hph : ph l n m = ph_in (ph l n) m n + (if hs l m n = 0 then 1 else 0) := ph_s l n (by omega)
        have fin : ∀ x : Int32, x = nI (ph l n m) → jx_T 16 112 [.ref 15, .int (nI n), .int (nI (2 ^ n)), .int (nI m), .int (nI (2 ^ nz_p 13 m)), .int (nI (ph_in (ph l n) m n))] [.int x, .int (nI m), .ref 18] (hc W2 g nx s) (some (.int (nI (ph l n (2 ^ n - 1)) + 1))) (hc W4 g nx s) := by
          intro x hx
          rw [hx]
          refine jx_T.step (pc' := 113) (st' := [_, _, _]) rfl rfl ?_
          refine cl.bast 18 (by decide) rfl (cw_c18 _) (cw_s18 _) (rf_ix (by omega) (by decide)) ?_
          rw [nI_clamp (by omega), by_I (by omega), ← e3]
          refine jx_T.step (pc' := 117) (ls' := [_, _, _, _, _, _]) (st' := []) rfl rfl ?_
          refine jx_T.step (pc' := 36) (st' := []) rfl rfl ?_
          rw [nI_1]
          exact t4
        refine jx_T.step (pc' := 37) (st' := [_]) rfl rfl ?_
        refine jx_T.step (pc' := 38) (st' := [_, _]) rfl rfl ?_
        refine cl.bc rfl (jx_br_ge _ _) (fun zq => absurd zq (nI_ge (by omega) (by omega))) (fun _ => ?_)
        refine jx_T.step (pc' := 42) (st' := [_]) rfl rfl ?_
        refine jx_T.step (pc' := 45) (st' := [_, _]) rfl rfl ?_
        rw [rf_lit 8192]
        refine cl.bc rfl (jx_br_ge _ _) (fun zq => absurd zq (nI_ge (by omega) (by omega))) (fun _ => ?_)
        refine jx_T.step (pc' := 49) (st' := [_]) rfl rfl ?_
        refine jx_T.step (pc' := 50) (st' := [_, _]) rfl rfl ?_
        refine jx_T.step (pc' := 51) (st' := [_, _]) rfl rfl ?_
        refine jx_T.step (pc' := 52) (st' := [_]) rfl rfl ?_
        rw [z2]
        refine jx_T.step (pc' := 54) (ls' := [_, _, _, _, _, _]) (st' := []) rfl rfl ?_
        refine jx_T.step (pc' := 55) (st' := [_]) rfl rfl ?_
        refine cl.get 15 (by decide) rfl (cw_c15 _) rfl ?_
        refine jx_T.step (pc' := 59) (st' := [_, _]) rfl rfl ?_
        refine jx_T.step (pc' := 60) (st' := [_, _, _]) rfl rfl ?_
        refine cl.get 15 (by decide) rfl (cw_c15 _) rfl ?_
        refine jx_T.step (pc' := 64) (st' := [_, _, _, _]) rfl rfl ?_
        refine jx_T.step (pc' := 66) (st' := [_, _, _, _, _]) rfl rfl ?_
        refine jx_T.step (pc' := 67) (st' := [_, _, _, _]) rfl rfl ?_
        rw [bt_xor]
        refine cl.lald 17 (by decide) rfl (cw_c17 _) (rf_ix (by omega) (by decide)) ?_
        rw [nI_clamp (by omega), (tb _ lt).1]
        refine jx_T.step (pc' := 69) (st' := [_, _, _, _]) rfl rfl ?_
        refine cl.get 15 (by decide) rfl (cw_c15 _) rfl ?_
        refine jx_T.step (pc' := 73) (st' := [_, _, _, _, _]) rfl rfl ?_
        refine cl.s1I rfl (by decide) rfl (Nat.le_of_ble_eq_true rfl) (Nat.le_of_ble_eq_true rfl) (kc_ntz _ (by omega) (by omega)) ?_
        refine cl.lald 16 (by decide) rfl (cw_c16 _) (rf_ix (by omega) (by decide)) ?_
        rw [nI_clamp (by omega), e16, I.2 _ (by omega)]
        refine jx_T.step (pc' := 78) (st' := [_, _, _]) rfl rfl ?_
        rw [← hs_x l z3 n zn]
        refine cl.last 17 (by decide) rfl (cw_c17 _) (cw_s17 _) (rf_ix (by omega) (by decide)) ?_
        rw [nI_clamp (by omega), ← e2]
        refine jx_T.step (pc' := 80) (st' := [_]) rfl rfl ?_
        refine jx_T.step (pc' := 81) (st' := [_, _]) rfl rfl ?_
        refine jx_T.step (pc' := 82) (st' := [_, _, _]) rfl rfl ?_
        refine cl.v2I (hc_fix 15 (by decide) (cw_c15 _)) rfl (by decide) rfl ⟨Nat.le_of_ble_eq_true rfl, rfl⟩ (Nat.le_of_ble_eq_true rfl) (cb) ?_
        refine jx_T.step (pc' := 87) (ls' := [_, _, _, _, _, _]) (st' := []) rfl rfl ?_
        refine jx_T.step (pc' := 88) (st' := [_]) rfl rfl ?_
        refine cl.get 15 (by decide) rfl (cw_c15 _) rfl ?_
        refine jx_T.step (pc' := 92) (st' := [_, _]) rfl rfl ?_
        refine jx_T.step (pc' := 93) (st' := [_, _, _]) rfl rfl ?_
        refine cl.get 15 (by decide) rfl (cw_c15 _) rfl ?_
        refine jx_T.step (pc' := 97) (st' := [_, _, _, _]) rfl rfl ?_
        refine cl.lald 17 (by decide) rfl (cw_c17 _) (rf_ix (by omega) (by decide)) ?_
        rw [nI_clamp (by omega), s2, show vp_updL (W1.2.1 17) m (hs l m n) m = hs l m n from if_pos rfl]
        refine jx_T.step (pc' := 99) (st' := [_, _, _, _]) rfl rfl ?_
        refine jx_T.step (pc' := 100) (st' := [_, _, _]) rfl rfl ?_
        by_cases q : hs l m n = 0
        · rw [if_pos q] at hph
          refine cl.brn rfl (fun y => absurd ((lg_cmp_eq0 _ _).mpr q) y) (fun _ => ?_)
          refine jx_T.step (pc' := 105) (st' := [_, _, _]) rfl rfl ?_
          refine jx_T.step (pc' := 106) (st' := [_, _, _, _]) rfl rfl ?_
          refine jx_T.step (pc' := 107) (st' := [_, _, _]) rfl rfl ?_
          refine jx_T.step (pc' := 112) (st' := [_, _, _]) rfl rfl ?_
          exact fin _ (by rw [nI_1, hph])
        · rw [if_neg q] at hph
          refine cl.brn rfl (fun _ => ?_) (fun y => absurd ((lg_cmp_eq0 _ _).mp y) q)
          refine jx_T.step (pc' := 112) (st' := [_, _, _]) rfl rfl ?_
          exact fin _ (by rw [hph]; rfl)
    obtain ⟨W0, e0⟩ : ∃ W0, W0 = cw_A (cw_B W 17 (vp_updL (W.2.1 17) 0 0)) 18 (upd ((cw_B W 17 (vp_updL (W.2.1 17) 0 0)).1 18) 0 (vp_nar .byte 0)) := ⟨_, rfl⟩
    obtain ⟨W4, t4, k4⟩ := loop (2 ^ n - 1) 1 (by omega) (by omega) W0 (.retAddr 0) (.retAddr 0) (by rw [e0]; exact (kh_f.B (Or.inr rfl)).tr kh_f.A) (by rw [e0]; exact cw_Bn _ _ _ (by decide)) (fun j hj => by
      obtain rfl : j = 0 := by omega
      have a1 : W0.2.1 17 = vp_updL (W.2.1 17) 0 0 := by rw [e0]; exact cw_Be _ _ _
      have a2 : W0.1 18 = upd (W.1 18) 0 (vp_nar .byte 0) := by rw [e0]; exact cw_Ae _ _ _
      rw [a1, a2, ph_0]
      refine ⟨?_, show vp_nar .byte 0 = nI 0 by decide⟩
      show (0 : Int64) = _
      have h : ∀ k, hs l 0 k = 0 := by
        intro k
        induction k with
        | zero => rfl
        | succ k ih =>
          unfold hs
          rw [Nat.zero_testBit, if_neg (by decide), ih]
      exact (h n).symm)
    refine ⟨W4, ?_, k4⟩
    show jx_T 16 0 [.ref 15, .retAddr 0, .retAddr 0, .retAddr 0, .retAddr 0, .retAddr 0] [] _ _ _
    refine jx_T.step (pc' := 1) (st' := [_]) rfl rfl ?_
    refine cl.get 15 (by decide) rfl (cw_c15 _) rfl ?_
    rw [I.1]
    refine cl.brn rfl (fun _ => ?_) (fun y => absurd ((nI_z (by omega)).mp y) h0)
    refine jx_T.step (pc' := 10) (st' := [_]) rfl rfl ?_
    refine cl.get 15 (by decide) rfl (cw_c15 _) rfl ?_
    rw [I.1]
    refine jx_T.step (pc' := 14) (st' := [_, _]) rfl rfl ?_
    refine jx_T.step (pc' := 15) (st' := [_]) rfl rfl ?_
    rw [rf_lit 1, rf_nsub (by omega), show l.length - 1 = n by omega]
    refine jx_T.step (pc' := 16) (ls' := [_, _, _, _, _, _]) (st' := []) rfl rfl ?_
    refine jx_T.step (pc' := 17) (st' := [_]) rfl rfl ?_
    refine jx_T.step (pc' := 18) (st' := [_, _]) rfl rfl ?_
    refine jx_T.step (pc' := 19) (st' := [_]) rfl rfl ?_
    rw [bt_shl (by omega)]
    refine jx_T.step (pc' := 20) (ls' := [_, _, _, _, _, _]) (st' := []) rfl rfl ?_
    refine jx_T.step (pc' := 21) (st' := [_]) rfl rfl ?_
    refine cl.get 15 (by decide) rfl (cw_c15 _) rfl ?_
    refine jx_T.step (pc' := 25) (st' := [_, _]) rfl rfl ?_
    refine jx_T.step (pc' := 26) (st' := [_, _, _]) rfl rfl ?_
    refine cl.last 17 (by decide) rfl (cw_c17 _) (cw_s17 _) (by decide) ?_
    refine jx_T.step (pc' := 28) (st' := [_]) rfl rfl ?_
    refine cl.get 15 (by decide) rfl (cw_c15 _) rfl ?_
    refine jx_T.step (pc' := 32) (st' := [_, _]) rfl rfl ?_
    refine jx_T.step (pc' := 33) (st' := [_, _, _]) rfl rfl ?_
    refine cl.bast 18 (by decide) rfl (cw_c18 _) (cw_s18 _) (by decide) ?_
    rw [show ((0 : Int32)).toNatClampNeg = 0 from rfl, ← e0]
    refine jx_T.step (pc' := 35) (st' := [_]) rfl rfl ?_
    refine jx_T.step (pc' := 36) (ls' := [_, _, _, _, _, _]) (st' := []) rfl rfl ?_
    exact t4
end
