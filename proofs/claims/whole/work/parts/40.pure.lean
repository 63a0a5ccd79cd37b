/-! the levels as a list, the sums as functions: what the reference's scratch rows held before tells nothing -/
def lv_ins (v : Int32) : List Int32 → List Int32
  | [] => [v]
  | a :: l => if v < a then a :: lv_ins v l else if a = v then a :: l else v :: a :: l
def lv_of (f : Nat → Int32) (n : Nat) : List Int32 := (List.range' 0 n).map f
theorem rf_pos_ge (f : Nat → Int32) (v : Int32) : ∀ (d k : Nat), k ≤ rf_pos f v d k
  | 0, k => Nat.le_refl k
  | d + 1, k => by
    unfold rf_pos
    split
    · have := rf_pos_ge f v d (k + 1)
      omega
    · omega
theorem lv_rs (f : Nat → Int32) : ∀ (d k : Nat), (List.range' (k + 1) d).map f = (List.range' k d).map (fun j => f (j + 1))
  | 0, _ => rfl
  | d + 1, k => by
    rw [List.range'_succ, List.range'_succ, List.map_cons, List.map_cons, lv_rs f d (k + 1)]
theorem lv_ins_r (f : Nat → Int32) (v : Int32) : ∀ (d k : Nat), lv_ins v ((List.range' k d).map f) = if rf_pos f v d k < k + d ∧ f (rf_pos f v d k) = v then (List.range' k d).map f else (List.range' k (d + 1)).map (fun j => if j < rf_pos f v d k then f j else if j = rf_pos f v d k then v else f (j - 1))
  | 0, k => by
    unfold rf_pos
    rw [if_neg (by omega)]
    simp [lv_ins, List.range']
  | d + 1, k => by
    have ih := lv_ins_r f v d (k + 1)
    have hg := rf_pos_ge f v d (k + 1)
    rw [List.range'_succ, List.map_cons]
    unfold lv_ins rf_pos
    by_cases h1 : v < f k
    · rw [if_pos h1, if_pos h1, ih]
      by_cases h2 : rf_pos f v d (k + 1) < k + 1 + d ∧ f (rf_pos f v d (k + 1)) = v
      · rw [if_pos h2, if_pos ⟨by omega, h2.2⟩]
      · rw [if_neg h2, if_neg (fun q => h2 ⟨by omega, q.2⟩), List.range'_succ (s := k), List.map_cons, if_pos (by omega)]
    · rw [if_neg h1, if_neg h1]
      by_cases h2 : f k = v
      · rw [if_pos h2, if_pos ⟨by omega, h2⟩]
      · rw [if_neg h2, if_neg (fun q => h2 q.2), List.range'_succ (s := k), List.map_cons, if_neg (by omega), if_pos rfl, ← List.map_cons, ← List.range'_succ]
        rw [lv_rs (fun j => if j < k then f j else if j = k then v else f (j - 1)) (d + 1) k]
        refine congrArg (fun l => v :: l) ?_
        refine List.map_congr_left fun j hj => ?_
        have := (List.mem_range'_1.mp hj).1
        show f j = if j + 1 < k then f (j + 1) else if j + 1 = k then v else f (j + 1 - 1)
        rw [if_neg (by omega), if_neg (by omega)]
        rfl
theorem lv_jn (R : rf_R) (n : Nat) (v : Int32) : lv_of ((rf_jn R n v).1 9) (rf_jc R n v) = lv_ins v (lv_of (R.1 9) n) := by
  have hl := rf_pos_le (R.1 9) v n 0
  unfold lv_of
  rw [lv_ins_r]
  unfold rf_jn rf_jc
  rw [Nat.zero_add]
  by_cases h : rf_pos (R.1 9) v n 0 < n ∧ R.1 9 (rf_pos (R.1 9) v n 0) = v
  · rw [if_pos h, if_pos h, if_pos h]
  · rw [if_neg h, if_neg h, if_neg h]
    refine List.map_congr_left fun j hj => ?_
    have := (List.mem_range'_1.mp hj).2
    show upd (rf_sh (R.1 9) n (rf_pos (R.1 9) v n 0)) (rf_pos (R.1 9) v n 0) v j = _
    unfold upd rf_sh
    by_cases h1 : j = rf_pos (R.1 9) v n 0
    · rw [if_pos h1, if_neg (by omega), if_pos h1]
    · rw [if_neg h1]
      by_cases h2 : rf_pos (R.1 9) v n 0 < j
      · rw [if_pos (by omega), if_neg (by omega), if_neg h1]
      · rw [if_neg (by omega), if_pos (by omega)]
def lv_all (l : List Int32) (vs : List Int32) : List Int32 := vs.foldl (fun l v => lv_ins v l) l
theorem lv_all_s (l vs : List Int32) (v : Int32) : lv_all l (vs ++ [v]) = lv_ins v (lv_all l vs) := by
  unfold lv_all
  rw [List.foldl_append]
  rfl
def lv_s (N : Nat → Int32) (s k : Nat) : List Int32 := (List.range' 0 k).map (fun j => rf_lvl N s (rf_end N s j))
theorem lv_r1 (f : Nat → Int32) (k : Nat) : (List.range' 0 (k + 1)).map f = (List.range' 0 k).map f ++ [f k] := by
  rw [List.range'_concat, List.map_append]
  simp
theorem lv_lv (R : rf_R) (n s : Nat) : ∀ k, lv_of ((rf_lv R n s k).1.1 9) (rf_lv R n s k).2 = lv_all (lv_of (R.1 9) n) (lv_s (R.1 0) s (k + 1))
  | 0 => lv_jn _ _ _
  | k + 1 => by
    unfold lv_s
    rw [lv_r1, lv_all_s]
    refine (lv_jn _ _ _).trans ?_
    rw [lv_lv R n s k]
    rfl
def lv_w (N : Nat → Int32) (w : Int32) : Nat → List Int32
  | 0 => []
  | s + 1 => if rf_isb N s w = true then lv_all (lv_w N w s) (lv_s N s (rf_sp N s + 1)) else lv_w N w s
theorem lv_ly (R : rf_R) (w : Int32) : ∀ s, (∀ t, t < s → rf_sp (R.1 0) t ≤ 8) → lv_of ((rf_ly R w s).1.1 9) (rf_ly R w s).2 = lv_w (R.1 0) w s
  | 0, _ => rfl
  | s + 1, hs => by
    have ih := lv_ly R w s (fun t ht => hs t (by omega))
    have k := (rf_ly_ok R w s (fun t ht => hs t (by omega))).1
    unfold rf_ly lv_w
    by_cases h : rf_isb (R.1 0) s w = true
    · rw [if_pos h, if_pos h]
      refine (lv_lv _ _ _ _).trans ?_
      rw [ih, k.1 0 (by decide)]
    · rw [if_neg h, if_neg h]
      exact ih
/-- the levels of a work, with the extras -/
def lv_L (N X : Nat → Int32) (w : Int32) (M E : Nat) : List Int32 := lv_all (lv_w N w M) ((List.range' 0 E).map X)
theorem lv_ex (q : rf_R × Nat) (f : Nat → Int32) : ∀ k, lv_of ((rf_ex q f k).1.1 9) (rf_ex q f k).2 = lv_all (lv_of (q.1.1 9) q.2) ((List.range' 0 k).map f)
  | 0 => rfl
  | k + 1 => by
    rw [lv_r1, lv_all_s]
    refine (lv_jn _ _ _).trans ?_
    rw [lv_ex q f k]
theorem lv_las {R : rf_R} {M E : Nat} (P : rf_Pre R M E) (w : Int32) : lv_of ((rf_las R w M E).1.1 9) (rf_hn R w M E) = lv_L (R.1 0) (R.1 7) w M E := by
  unfold lv_L
  rw [← lv_ly R w M (fun t ht => (P.ok t ht).1)]
  exact lv_ex _ _ _
theorem lv_hn {R : rf_R} {M E : Nat} (P : rf_Pre R M E) (w : Int32) : rf_hn R w M E = (lv_L (R.1 0) (R.1 7) w M E).length := by
  rw [← lv_las P w]
  unfold lv_of
  rw [List.length_map, List.length_range']
theorem lv_get {R : rf_R} {M E : Nat} (P : rf_Pre R M E) (w : Int32) (k : Nat) (hk : k < rf_hn R w M E) : (rf_las R w M E).1.1 9 k = (lv_L (R.1 0) (R.1 7) w M E).getD k 0 := by
  rw [← lv_las P w]
  unfold lv_of
  rw [List.getD_eq_getElem?_getD, List.getElem?_map, List.getElem?_range' hk]
  simp
/-- the layer above level k, what stands at it -/
def hp_la (N : Nat → Int32) (w : Int32) (M : Nat) (L : List Int32) (k : Nat) : Int64 := if k = 0 then 0 else rf_la N w (L.getD (k - 1) 0) (L.getD k 0) M
def hp_st (N X : Nat → Int32) (Y : Nat → Int64) (w : Int32) (M E : Nat) (L : List Int32) (k : Nat) : Int64 := rf_se X Y (L.getD k 0) (rf_st N w (L.getD k 0) M) E
def hp_su (a b : Nat → Int64) : Nat → Int64
  | 0 => 0
  | k + 1 => hp_su a b k + a k + b k
def hp_mn (a b : Nat → Int64) : Nat → Int64
  | 0 => 0
  | k + 1 => rf_min (hp_su a b (k + 1)) (rf_min (hp_su a b k + a k) (hp_mn a b k))
theorem hp_lh (R : rf_R) (w : Int32) (M E n : Nat) (L : List Int32) (hL : ∀ k, k < n → R.1 9 k = L.getD k 0) : ∀ k, k ≤ n → (rf_lh R w M E k).1 = hp_su (hp_la (R.1 0) w M L) (hp_st (R.1 0) (R.1 7) (R.2.1 8) w M E L) k ∧ (rf_lh R w M E k).2.1 = hp_mn (hp_la (R.1 0) w M L) (hp_st (R.1 0) (R.1 7) (R.2.1 8) w M E L) k ∧ ∀ j, j < k → (rf_lh R w M E k).2.2.1 j = hp_su (hp_la (R.1 0) w M L) (hp_st (R.1 0) (R.1 7) (R.2.1 8) w M E L) j + hp_la (R.1 0) w M L j ∧ (rf_lh R w M E k).2.2.2 j = hp_su (hp_la (R.1 0) w M L) (hp_st (R.1 0) (R.1 7) (R.2.1 8) w M E L) (j + 1)
  | 0, _ => ⟨rfl, rfl, fun j hj => absurd hj (by omega)⟩
  | k + 1, hk => by
    obtain ⟨h1, h2, h3⟩ := hp_lh R w M E n L hL k (by omega)
    have e1 : (if k = 0 then (rf_lh R w M E k).1 else (rf_lh R w M E k).1 + rf_la (R.1 0) w (R.1 9 (k - 1)) (R.1 9 k) M) = hp_su (hp_la (R.1 0) w M L) (hp_st (R.1 0) (R.1 7) (R.2.1 8) w M E L) k + hp_la (R.1 0) w M L k := by
      rw [h1]
      unfold hp_la
      by_cases hz : k = 0
      · rw [if_pos hz, if_pos hz, Int64.add_zero]
      · rw [if_neg hz, if_neg hz, hL k (by omega), hL (k - 1) (by omega)]
    have e2 : rf_se (R.1 7) (R.2.1 8) (R.1 9 k) (rf_st (R.1 0) w (R.1 9 k) M) E = hp_st (R.1 0) (R.1 7) (R.2.1 8) w M E L k := by
      unfold hp_st
      rw [hL k (by omega)]
    generalize ha : hp_la (R.1 0) w M L = a at e1 h1 h2 h3 ⊢
    generalize hb : hp_st (R.1 0) (R.1 7) (R.2.1 8) w M E L = b at e1 e2 h1 h2 h3 ⊢
    have e3 : rf_lh R w M E (k + 1) = (hp_su a b k + a k + b k, rf_min (hp_su a b k + a k + b k) (rf_min (hp_su a b k + a k) (rf_lh R w M E k).2.1), vp_updL (rf_lh R w M E k).2.2.1 k (hp_su a b k + a k), vp_updL (rf_lh R w M E k).2.2.2 k (hp_su a b k + a k + b k)) := by
      rw [← e2, ← e1]
      rfl
    rw [e3]
    refine ⟨rfl, by rw [h2]; rfl, fun j hj => ?_⟩
    dsimp only
    unfold vp_updL
    by_cases hjk : j = k
    · subst hjk
      rw [if_pos rfl, if_pos rfl]
      exact ⟨rfl, rfl⟩
    · rw [if_neg hjk, if_neg hjk]
      exact h3 j (by omega)
/-- least heat, ahead, behind, by what counts alone -/
def hp_a (N X : Nat → Int32) (w : Int32) (M E : Nat) : Nat → Int64 := hp_la N w M (lv_L N X w M E)
def hp_b (N X : Nat → Int32) (Y : Nat → Int64) (w : Int32) (M E : Nat) : Nat → Int64 := hp_st N X Y w M E (lv_L N X w M E)
def hp_n (N X : Nat → Int32) (w : Int32) (M E : Nat) : Nat := (lv_L N X w M E).length
def hp_v (N X : Nat → Int32) (Y : Nat → Int64) (w : Int32) (M E : Nat) : Int64 := -(hp_mn (hp_a N X w M E) (hp_b N X Y w M E) (hp_n N X w M E))
def hp_be (N X : Nat → Int32) (Y : Nat → Int64) (w : Int32) (M E j : Nat) : Int64 := hp_su (hp_a N X w M E) (hp_b N X Y w M E) (j + 1)
def hp_ah (N X : Nat → Int32) (Y : Nat → Int64) (w : Int32) (M E j : Nat) : Int64 := hp_su (hp_a N X w M E) (hp_b N X Y w M E) j + hp_a N X w M E j
theorem hp_heat {R : rf_R} {M E : Nat} (P : rf_Pre R M E) (w : Int32) : rf_hn R w M E = hp_n (R.1 0) (R.1 7) w M E ∧ rf_hv R w M E = hp_v (R.1 0) (R.1 7) (R.2.1 8) w M E ∧ ∀ j, j < rf_hn R w M E → (rf_hq R w M E).2.2.1 j = hp_ah (R.1 0) (R.1 7) (R.2.1 8) w M E j ∧ (rf_hq R w M E).2.2.2 j = hp_be (R.1 0) (R.1 7) (R.2.1 8) w M E j := by
  have k := (rf_las_ok P w).1
  have h := hp_lh (rf_las R w M E).1 w M E (rf_hn R w M E) (lv_L (R.1 0) (R.1 7) w M E) (fun j hj => lv_get P w j hj) (rf_hn R w M E) (Nat.le_refl _)
  rw [k.1 0 (by decide), k.1 7 (by decide), k.2.1] at h
  refine ⟨lv_hn P w, ?_, h.2.2⟩
  unfold rf_hv hp_v hp_a hp_b
  rw [← show rf_hn R w M E = hp_n (R.1 0) (R.1 7) w M E from lv_hn P w, ← h.2.1]
  rfl
