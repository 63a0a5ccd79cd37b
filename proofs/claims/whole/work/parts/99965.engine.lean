/-! call: engine -/
def dx (D : Int32 → Int) (v : Int32) (p : Int) : Int32 → Int := fun x => D x + (if x.toInt < v.toInt then p else 0)
def ax (A : Int32 → Int) (v : Int32) (p : Int) : Int32 → Int := fun x => A x + (if x = v then p else 0)
theorem dx_0 (D : Int32 → Int) (v : Int32) : dx D v 0 = D := by
  funext x
  show D x + _ = D x
  rw [ite_self, Int.add_zero]
theorem ax_0 (A : Int32 → Int) (v : Int32) : ax A v 0 = A := by
  funext x
  show A x + _ = A x
  rw [ite_self, Int.add_zero]
def zDw (N : Nat → Int32) (w : Int32) (M : Nat) : Int32 → Int := fun x => zD N w x M
def zAw (N : Nat → Int32) (w : Int32) (M : Nat) : Int32 → Int := fun x => zA N w x M
theorem rf_pos_at {f : Nat → Int32} {v : Int32} : ∀ d k j0, k ≤ j0 → j0 < k + d → f j0 = v → (∀ j, k ≤ j → j < j0 → v < f j) → rf_pos f v d k = j0
  | 0, k, j0, h1, h2, _, _ => absurd h2 (by omega)
  | d + 1, k, j0, h1, h2, e, h => by
    unfold rf_pos
    by_cases z : k = j0
    · rw [z, e, if_neg]
      rw [lv_i]
      omega
    · rw [if_pos (h k (by omega) (by omega))]
      exact rf_pos_at d (k + 1) j0 (by omega) (by omega) e (fun j a b => h j (by omega) b)
section
variable {D A : Int32 → Int} {L : List Int32} {v : Int32}
theorem lv_p_at (hs : lv_srt L) (hm : v ∈ L) : lv_p L v < L.length ∧ lg L (lv_p L v) = v ∧ ∀ k, k < L.length → lg L k = v → k = lv_p L v := by
  obtain ⟨q, hq, e⟩ := ll_at hm
  have ep : lv_p L v = q := rf_pos_at _ _ q (Nat.zero_le _) (by omega) e (fun j _ hj => by
    rw [← e, lv_i]
    exact ll_lt hs hj hq)
  rw [ep]
  refine ⟨hq, e, fun k hk ek => ?_⟩
  have e2 : (lg L k).toInt = (lg L q).toInt := by
    rw [ek]
    show v.toInt = (L.getD q 0).toInt
    rw [e]
  rcases Nat.lt_trichotomy k q with z | z | z
  · have := ll_lt hs z hq
    have e3 : (L.getD q 0).toInt = (L.getD k 0).toInt := e2.symm
    omega
  · exact z
  · have := ll_lt hs z hk
    have e3 : (L.getD q 0).toInt = (L.getD k 0).toInt := e2.symm
    omega
theorem pf.x (h : pf D A L) (hs : lv_srt L) (hm : v ∈ L) (p : Int) : pf (dx D v p) (ax A v p) L := h.ex hs hm p
def bd (D A : Int32 → Int) (L : List Int32) (c : Int) : Prop := ∀ k, k < L.length → (-c ≤ D (lg L k) ∧ D (lg L k) ≤ c) ∧ (-c ≤ A (lg L k) ∧ A (lg L k) ≤ c)
theorem bd.x {c e p : Int} (h : bd D A L c) (hp : -e ≤ p ∧ p ≤ e) (v : Int32) : bd (dx D v p) (ax A v p) L (c + e) := by
  intro k hk
  have q := h k hk
  show (_ ≤ D (lg L k) + _ ∧ D (lg L k) + _ ≤ _) ∧ (_ ≤ A (lg L k) + _ ∧ A (lg L k) + _ ≤ _)
  split <;> split <;> omega
theorem dx_d (hs : lv_srt L) (hm : v ∈ L) (p : Int) {k : Nat} (hk : k + 1 < L.length) : dx D v p (lg L (k + 1)) - dx D v p (lg L k) - ax A v p (lg L k) = D (lg L (k + 1)) - D (lg L k) - A (lg L k) := by
  have nb : (lg L k).toInt ≤ v.toInt ∨ v.toInt ≤ (lg L (k + 1)).toInt := lv_nb hs hm hk
  have lt : (lg L (k + 1)).toInt < (lg L k).toInt := ll_lt hs (by omega) hk
  show D (lg L (k + 1)) + (if (lg L (k + 1)).toInt < v.toInt then p else 0) - (D (lg L k) + (if (lg L k).toInt < v.toInt then p else 0)) - (A (lg L k) + (if lg L k = v then p else 0)) = _
  by_cases y : lg L k = v
  · rw [if_pos y, if_pos (show (lg L (k + 1)).toInt < v.toInt by rw [← y]; exact lt), if_neg (show ¬ (lg L k).toInt < v.toInt by rw [y]; omega)]
    omega
  · have y2 : ¬ (lg L k).toInt = v.toInt := fun r => y (Int32.toInt_inj.mp r)
    rw [if_neg y]
    by_cases z : (lg L k).toInt < v.toInt
    · rw [if_pos z, if_pos (show (lg L (k + 1)).toInt < v.toInt by omega)]
      omega
    · rw [if_neg z, if_neg (show ¬ (lg L (k + 1)).toInt < v.toInt by omega)]
      omega
theorem at2_i {a : Nat → Int64} (hs : lv_srt L) (hm : v ∈ L) (ha : ∀ k, k < L.length → (a k).toInt = A (lg L k)) {c : Int} (b : bd D A L c) (hc2 : c ≤ 1000000000000) (y : Int64) (by2 : -1000000000000 ≤ y.toInt ∧ y.toInt ≤ 1000000000000) : ∀ k, k < L.length → (lv_at2 a L.length (lv_p L v) y k).toInt = ax A v y.toInt (lg L k) := by
  intro k hk
  obtain ⟨h1, h2, h3⟩ := lv_p_at hs hm
  unfold lv_at2
  rw [if_pos h1]
  show (if k = lv_p L v then a (lv_p L v) + y else a k).toInt = A (lg L k) + (if lg L k = v then y.toInt else 0)
  by_cases z : k = lv_p L v
  · have q := b k hk
    rw [if_pos z, if_pos (by rw [z]; exact h2), Int64.toInt_add, ← z, ha k hk]
    exact Int.bmod_eq_of_le (by omega) (by omega)
  · rw [if_neg z, if_neg (fun q => z (h3 k hk q)), Int.add_zero, ha k hk]
end
section
variable {N : Nat → Int32} {T : tv}
theorem bd_0 {M : Nat} (k : tk N M) (w : Int32) (L : List Int32) : bd (zDw N w M) (zAw N w M) L 1000000000 := by
  intro j _
  have q := zD_in k w (lg L j) M (Nat.le_refl _)
  have h := k.1
  show (_ ≤ zD N w (lg L j) M ∧ zD N w (lg L j) M ≤ _) ∧ (_ ≤ zA N w (lg L j) M ∧ zA N w (lg L j) M ≤ _)
  omega
/-- a run down the levels, as whole numbers -/
theorem cf_ml (t : tls T N) {w : Int32} {L : List Int32} (h : lv_ok N w T.2.1 L) {D A : Int32 → Int} (P : pf D A L) {c : Int} (b : bd D A L c) (hc2 : c ≤ 1000000000000000) {a : Nat → Int64} (ha : ∀ k, k < L.length → (a k).toInt = A (lg L k)) (hd : ∀ k, k + 1 < L.length → D (lg L (k + 1)) - D (lg L k) - A (lg L k) = zDw N w T.2.1 (lg L (k + 1)) - zDw N w T.2.1 (lg L k) - zAw N w T.2.1 (lg L k)) : (∀ k, k < L.length → (cf_su a (tw_b T w L) k).toInt = D (lg L k) ∧ (cf_su a (tw_b T w L) k + a k).toInt = D (lg L k) + A (lg L k)) ∧ (cf_mn a (tw_b T w L) L.length).toInt = mnI D A L L.length ∧ ml D A (mnI D A L L.length) := by
  have s := cf_i (D := D) (A := A) (L := L) (a := a) (b := tw_b T w L) P.2.2.2 (fun k hk => by have := b k hk; omega) ha (fun k hk => by rw [hd k hk]; exact b_i t h hk)
  exact ⟨s, cf_mi s _ (Nat.le_refl _), P.ml h.1⟩
theorem pf_z (t : tls T N) {w : Int32} {L : List Int32} (h : lv_ok N w T.2.1 L) : pf (zDw N w T.2.1) (zAw N w T.2.1) L := pf_D t.k h
theorem cf_0 (t : tls T N) {w : Int32} {L : List Int32} (h : lv_ok N w T.2.1 L) : (∀ k, k < L.length → (cf_su (tw_a T w L) (tw_b T w L) k).toInt = zDw N w T.2.1 (lg L k) ∧ (cf_su (tw_a T w L) (tw_b T w L) k + tw_a T w L k).toInt = zDw N w T.2.1 (lg L k) + zAw N w T.2.1 (lg L k)) ∧ (cf_mn (tw_a T w L) (tw_b T w L) L.length).toInt = mnI (zDw N w T.2.1) (zAw N w T.2.1) L L.length ∧ ml (zDw N w T.2.1) (zAw N w T.2.1) (mnI (zDw N w T.2.1) (zAw N w T.2.1) L L.length) := cf_ml t h (pf_z t h) (bd_0 t.k w L) (by decide) (fun k _ => a_i t w L k) (fun _ _ => rfl)
theorem lw_1 (t : tls T N) (w v : Int32) (hv2 : -200 ≤ v.toInt ∧ v.toInt ≤ 2000) (p : Int64) (hp : -1000000000000 ≤ p.toInt ∧ p.toInt ≤ 1000000000000) (u : Int32) : ∃ m : Int64, rf_lw N w T.2.1 v p u 0 = -m ∧ m.toInt = mnI (dx (zDw N w T.2.1) v p.toInt) (ax (zAw N w T.2.1) v p.toInt) (tw_M T w v) (tw_M T w v).length ∧ ml (dx (zDw N w T.2.1) v p.toInt) (ax (zAw N w T.2.1) v p.toInt) m.toInt := by
  have eL : tw_L T w = lv_w N w T.2.1 := t.tw w
  have ok : lv_ok N w T.2.1 (tw_M T w v) := by
    unfold tw_M
    rw [eL]
    exact (lv_ok_w t.k w).ins hv2
  have hm : v ∈ tw_M T w v := lv_ins_mem.mpr (Or.inl rfl)
  have e : rf_lw N w T.2.1 v p u 0 = -(hp_mn (hp_la N w T.2.1 (tw_M T w v)) (fun k => rf_st N w (lg (tw_M T w v) k) T.2.1 + (if v = lg (tw_M T w v) k then p else 0)) (tw_M T w v).length) := by
    unfold tw_M
    rw [eL]
    unfold rf_lw
    rw [if_pos rfl]
    rfl
  have s := cf_ml t ok ((pf_z t ok).x ok.1 hm p.toInt) ((bd_0 t.k w _).x hp v) (by decide) (a := fun k => rf_st N w (lg (tw_M T w v) k) T.2.1 + (if v = lg (tw_M T w v) k then p else 0)) (fun k hk => by
    have q := bd_0 t.k w (tw_M T w v) k hk
    have es : (rf_st N w (lg (tw_M T w v) k) T.2.1).toInt = zAw N w T.2.1 (lg (tw_M T w v) k) := st_i t.k w _ _ (Nat.le_refl _)
    show (rf_st N w (lg (tw_M T w v) k) T.2.1 + (if v = lg (tw_M T w v) k then p else 0)).toInt = zAw N w T.2.1 (lg (tw_M T w v) k) + (if lg (tw_M T w v) k = v then p.toInt else 0)
    by_cases z : v = lg (tw_M T w v) k
    · rw [if_pos z, if_pos z.symm, Int64.toInt_add, es]
      exact Int.bmod_eq_of_le (by omega) (by omega)
    · rw [if_neg z, if_neg (fun q => z q.symm), Int64.add_zero, es, Int.add_zero]) (fun k hk => dx_d ok.1 hm p.toInt hk)
  rw [(hw_su t ok _).2] at e
  exact ⟨_, e, s.2.1, by rw [s.2.1]; exact s.2.2⟩
theorem lw_2 (t : tls T N) (w v u : Int32) (hv2 : -200 ≤ v.toInt ∧ v.toInt ≤ 2000) (hu : -200 ≤ u.toInt ∧ u.toInt ≤ 2000) (p q : Int64) (hp : -1000000000 ≤ p.toInt ∧ p.toInt ≤ 1000000000) (hq : -1000000000 ≤ q.toInt ∧ q.toInt ≤ 1000000000) (q0 : ¬ q = 0) : ∃ m : Int64, rf_lw N w T.2.1 v p u q = -m ∧ ml (dx (dx (zDw N w T.2.1) v p.toInt) u q.toInt) (ax (ax (zAw N w T.2.1) v p.toInt) u q.toInt) m.toInt := by
  have eL : tw_L T w = lv_w N w T.2.1 := t.tw w
  obtain ⟨E, eE⟩ : ∃ E, E = lv_ins u (lv_ins v (tw_L T w)) := ⟨_, rfl⟩
  have ok : lv_ok N w T.2.1 E := by
    rw [eE, eL]
    exact ((lv_ok_w t.k w).ins hv2).ins hu
  have hm : v ∈ E := by
    rw [eE]
    exact lv_ins_mem.mpr (Or.inr (lv_ins_mem.mpr (Or.inl rfl)))
  have hm2 : u ∈ E := by
    rw [eE]
    exact lv_ins_mem.mpr (Or.inl rfl)
  have e : rf_lw N w T.2.1 v p u q = -(hp_mn (hp_la N w T.2.1 E) (fun k => rf_st N w (lg E k) T.2.1 + (if v = lg E k then p else 0) + (if u = lg E k then q else 0)) E.length) := by
    rw [eE, eL]
    unfold rf_lw
    rw [if_neg q0]
    rfl
  have s := cf_ml t ok (((pf_z t ok).x ok.1 hm p.toInt).x ok.1 hm2 q.toInt) (((bd_0 t.k w _).x hp v).x hq u) (by decide) (a := fun k => rf_st N w (lg E k) T.2.1 + (if v = lg E k then p else 0) + (if u = lg E k then q else 0)) (fun k hk => by
    have qb := bd_0 t.k w E k hk
    have es : (rf_st N w (lg E k) T.2.1).toInt = zAw N w T.2.1 (lg E k) := st_i t.k w _ _ (Nat.le_refl _)
    have f1 : (if v = lg E k then p else 0).toInt = if lg E k = v then p.toInt else 0 := by
      by_cases z : v = lg E k
      · rw [if_pos z, if_pos z.symm]
      · rw [if_neg z, if_neg (fun q => z q.symm)]
        rfl
    have f2 : (if u = lg E k then q else 0).toInt = if lg E k = u then q.toInt else 0 := by
      by_cases z : u = lg E k
      · rw [if_pos z, if_pos z.symm]
      · rw [if_neg z, if_neg (fun q => z q.symm)]
        rfl
    show (rf_st N w (lg E k) T.2.1 + (if v = lg E k then p else 0) + (if u = lg E k then q else 0)).toInt = zAw N w T.2.1 (lg E k) + (if lg E k = v then p.toInt else 0) + (if lg E k = u then q.toInt else 0)
    have g1 : -1000000000 ≤ (if lg E k = v then p.toInt else 0) ∧ (if lg E k = v then p.toInt else 0) ≤ 1000000000 := by
      split <;> omega
    have g2 : -1000000000 ≤ (if lg E k = u then q.toInt else 0) ∧ (if lg E k = u then q.toInt else 0) ≤ 1000000000 := by
      split <;> omega
    rw [Int64.toInt_add, Int64.toInt_add, es, f1, f2, Int.bmod_eq_of_le (n := zAw N w T.2.1 (lg E k) + (if lg E k = v then p.toInt else 0)) (by omega) (by omega)]
    exact Int.bmod_eq_of_le (by omega) (by omega)) (fun k hk => (dx_d ok.1 hm2 q.toInt hk).trans (dx_d ok.1 hm p.toInt hk))
  rw [(hw_su t ok _).2] at e
  exact ⟨_, e, by rw [s.2.1]; exact s.2.2⟩
theorem tl_en (t : tls T N) {h v w u : Int32} (ok : rf_eok h v w u) : tw_en T h v w u = rf_eng N T.2.1 h v w u := by
  obtain ⟨o1, o2, o3, o4, o5⟩ := ok
  have eL : tw_L T 3 = lv_w N 3 T.2.1 := t.tw 3
  have okE : lv_ok N 3 T.2.1 (tw_E T v u) := by
    unfold tw_E
    rw [eL]
    exact ((lv_ok_w t.k 3).ins o4).ins o5
  have hm : v ∈ tw_E T v u := lv_ins_mem.mpr (Or.inr (lv_ins_mem.mpr (Or.inl rfl)))
  have hm2 : u ∈ tw_E T v u := lv_ins_mem.mpr (Or.inl rfl)
  have ep : (-h).toInt64.toInt = -h.toInt := by
    rw [rf_w, Int32.toInt_neg]
    exact Int.bmod_eq_of_le (by omega) (by omega)
  have eq : (h - w).toInt64.toInt = h.toInt - w.toInt := by
    rw [rf_w, Int32.toInt_sub]
    exact Int.bmod_eq_of_le (by omega) (by omega)
  have a1 := at2_i (D := zDw N 3 T.2.1) (a := tw_a T 3 (tw_E T v u)) (A := zAw N 3 T.2.1) okE.1 hm (fun k _ => a_i t 3 _ k) (bd_0 t.k 3 _) (by decide) (-h).toInt64 (by rw [ep]; omega)
  have b1 : bd (dx (zDw N 3 T.2.1) v (-h).toInt64.toInt) (ax (zAw N 3 T.2.1) v (-h).toInt64.toInt) (tw_E T v u) (1000000000 + 1000000000) := (bd_0 t.k 3 _).x (by rw [ep]; omega) v
  have a2 := at2_i (D := dx (zDw N 3 T.2.1) v (-h).toInt64.toInt) okE.1 hm2 a1 b1 (by decide) (h - w).toInt64 (by rw [eq]; omega)
  have b2 : bd (dx (dx (zDw N 3 T.2.1) v (-h).toInt64.toInt) u (h - w).toInt64.toInt) (ax (ax (zAw N 3 T.2.1) v (-h).toInt64.toInt) u (h - w).toInt64.toInt) (tw_E T v u) (1000000000 + 1000000000 + 1000000000) := b1.x (by rw [eq]; omega) u
  have s := cf_ml t okE (((pf_z t okE).x okE.1 hm _).x okE.1 hm2 _) b2 (by decide) a2 (fun k hk => (dx_d okE.1 hm2 _ hk).trans (dx_d okE.1 hm _ hk))
  have key : cf_mn (tw_ea T h v w u) (tw_b T 3 (tw_E T v u)) (tw_E T v u).length = -(rf_lw N 3 T.2.1 v (-h).toInt64 u (h - w).toInt64) := by
    apply Int64.toInt_inj.mp
    by_cases z : (h - w).toInt64 = 0
    · obtain ⟨m, e, -, l⟩ := lw_1 t 3 v o4 (-h).toInt64 (by rw [ep]; omega) u
      rw [z, e, Int64.neg_neg]
      have z2 : (h - w).toInt64.toInt = 0 := by
        rw [z]
        rfl
      have s2 := s.2.2
      rw [← s.2.1] at s2
      rw [z2] at s2
      rw [dx_0, ax_0] at s2
      exact s2.u l
    · obtain ⟨m, e, l⟩ := lw_2 t 3 v u o4 o5 (-h).toInt64 (h - w).toInt64 (by rw [ep]; omega) (by rw [eq]; omega) z
      rw [e, Int64.neg_neg]
      have s2 := s.2.2
      rw [← s.2.1] at s2
      exact s2.u l
  unfold tw_en rf_eng
  rw [if_pos ⟨o1, o2, o3, o4, o5⟩, (hw_v t 3).2.1, key, Int64.neg_neg]
end
section
variable {L : Nat} {xs : Nat → Int32}
theorem op_engine (a v w u : Int32) : lw_o (lw_K L xs) L xs 126 188 [.int a, .int v, .int w, .int u] false := by
  intro k h p
  obtain ⟨W, g, nx, s, X, R, B, D, U, x, T, I⟩ := p
  obtain ⟨W2, t, f⟩ := kc_engine nx s I.cn a v w u
  obtain ⟨R2, r, j⟩ := rc_engine 56 I.pre a v w u
  by_cases q : rf_eok a v w u
  · rw [if_pos q, tl_en I.tl q] at t
    exact lw_ask I (Or.inr ⟨rfl, _, rfl⟩) t f.Q r j
  · rw [if_neg q] at t
    unfold rf_eng at r
    rw [if_neg q] at r
    exact lw_ask I (Or.inr ⟨rfl, _, rfl⟩) t f.Q r j
end
