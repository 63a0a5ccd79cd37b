/-! the works' network: least prices -/
theorem sp_tri_2 : ∀ n, 2 * sp_tri n ≤ n * (n + 1)
  | 0 => Nat.le_refl _
  | n + 1 => by
    have := sp_tri_2 n
    unfold sp_tri
    have e : (n + 1) * (n + 1 + 1) = n * (n + 1) + 2 * (n + 1) := by rw [← Nat.add_mul, Nat.mul_comm]
    omega
theorem sp_tri_m {n : Nat} (h : n ≤ 1324) : sp_tri n ≤ 1000000 := by
  have := sp_tri_2 n
  have : n * (n + 1) ≤ 1324 * 1325 := Nat.mul_le_mul h (by omega)
  omega
theorem Nat_modw {a j N : Nat} (ha : a < N) (hj : j < N) : (a + j) % N = if a + j < N then a + j else a + j - N := by
  by_cases h : a + j < N
  · rw [if_pos h, Nat.mod_eq_of_lt h]
  · rw [if_neg h, Nat.mod_eq_sub_mod (by omega), Nat.mod_eq_of_lt (by omega)]
def nq_one (H : List hA) (r : Nat → Int) (i : Nat) : Option (Nat × Int) := if r i = 0 then none else some ((H.getD i hd).2.1, (H.getD i hd).2.2.toInt)
def nq_adj (H : List hA) (r : Nat → Int) (a : Nat) : List (Nat × Int) := (hg_adj H a).filterMap (nq_one H r)
theorem nq_mem {H : List hA} {r : Nat → Int} {a : Nat} {e : Nat × Int} : e ∈ nq_adj H r a ↔ ∃ i, i < H.length ∧ (H.getD i hd).1 = a ∧ ¬ r i = 0 ∧ e = ((H.getD i hd).2.1, (H.getD i hd).2.2.toInt) := by
  unfold nq_adj
  rw [List.mem_filterMap]
  constructor
  · rintro ⟨i, h1, h2⟩
    obtain ⟨h3, h4⟩ := hg_mem.mp h1
    unfold nq_one at h2
    by_cases z : r i = 0
    · rw [if_pos z] at h2
      exact absurd h2 (by simp)
    · rw [if_neg z] at h2
      exact ⟨i, h3, h4, z, (Option.some.inj h2).symm⟩
  · rintro ⟨i, h1, h2, h3, rfl⟩
    exact ⟨i, hg_mem.mpr ⟨h1, h2⟩, if_neg h3⟩
/-- nodes, costs, how many -/
def nq_wf (H : List hA) (N : Nat) : Prop := H.length ≤ 11886 ∧ N ≤ 1324 ∧ ∀ i, i < H.length → (H.getD i hd).1 < N ∧ (H.getD i hd).2.1 < N ∧ -1000 ≤ (H.getD i hd).2.2.toInt ∧ (H.getD i hd).2.2.toInt ≤ 1000
def nq_pot (H : List hA) (r p : Nat → Int) : Prop := ∀ i, i < H.length → ¬ r i = 0 → p (H.getD i hd).2.1 ≤ p (H.getD i hd).1 + (H.getD i hd).2.2.toInt
theorem nq_ok {H : List hA} {r p : Nat → Int} {N : Nat} (wf : nq_wf H N) (po : nq_pot H r p) {s : Nat} (hs : s < N) : sp_ok (nq_adj H r) N s p := by
  refine ⟨hs, fun a b c _ h => ?_⟩
  obtain ⟨i, h1, h2, h3, h4⟩ := nq_mem.mp h
  obtain ⟨rfl, rfl⟩ := Prod.mk.inj h4
  have := po i h1 h3
  rw [h2] at this
  exact ⟨(wf.2.2 i h1).2.1, this⟩
def np_rep : Option Int → Int32
  | none => 2147483647
  | some x => Int32.ofInt x
theorem np_some {x : Int} (h : -2 ^ 30 ≤ x ∧ x ≤ 2 ^ 30) : (np_rep (some x)).toInt = x := by
  show (Int32.ofInt x).toInt = x
  rw [Int32.toInt_ofInt, show Int32.size = 2 ^ 32 from rfl]
  exact Int.bmod_eq_of_le (by omega) (by omega)
theorem np_none : (np_rep none).toInt = 2147483647 := by decide
theorem np_add {x : Int} (h : -2 ^ 28 ≤ x ∧ x ≤ 2 ^ 28) {c : Int32} (hc : -1000 ≤ c.toInt ∧ c.toInt ≤ 1000) : np_rep (some x) + c = np_rep (some (x + c.toInt)) := by
  apply Int32.toInt_inj.mp
  rw [Int32.toInt_add, np_some (by omega), np_some (by omega)]
  exact Int.bmod_eq_of_le (by omega) (by omega)
theorem np_lt {y : Int} (h : -2 ^ 29 ≤ y ∧ y ≤ 2 ^ 29) {o : Option Int} (ho : ∀ z, o = some z → -2 ^ 29 ≤ z ∧ z ≤ 2 ^ 29) : np_rep (some y) < np_rep o ↔ sp_lt y o = true := by
  rw [Int32.lt_iff_toInt_lt, np_some (by omega)]
  cases o with
  | none =>
    rw [np_none]
    exact ⟨fun _ => rfl, fun _ => by omega⟩
  | some z =>
    have := ho z rfl
    rw [np_some (by omega)]
    exact ⟨fun q => decide_eq_true q, fun q => of_decide_eq_true q⟩
/-- labels and queue, as they stand in the rows -/
def nt_S (W : cw) (N : Nat) (st : sp_S) (first : Nat) : Prop := first < N ∧ W.2.2.1 22 12 = nI first ∧ W.2.2.1 22 13 = nI st.2.length ∧ (∀ v, v < N → W.1 28 v = np_rep (st.1 v) ∧ W.1 30 v = if v ∈ st.2 then 1 else 0) ∧ ∀ j, j < st.2.length → W.1 29 ((first + j) % N) = nI (st.2.getD j 0)
def kp_f (W W2 : cw) : Prop := (∀ k, k ≠ 28 → k ≠ 29 → k ≠ 30 → W2.1 k = W.1 k) ∧ W2.2.1 = W.2.1 ∧ (∀ k y, ¬ (k = 22 ∧ (y = 12 ∨ y = 13)) → W2.2.2.1 k y = W.2.2.1 k y) ∧ W2.2.2.2 = W.2.2.2
theorem kp_f.rf {W : cw} : kp_f W W := ⟨fun _ _ _ _ => rfl, rfl, fun _ _ _ => rfl, rfl⟩
theorem kp_f.tr {W W2 W3 : cw} (a : kp_f W W2) (b : kp_f W2 W3) : kp_f W W3 := ⟨fun k h h2 h3 => (b.1 k h h2 h3).trans (a.1 k h h2 h3), b.2.1.trans a.2.1, fun k y h => (b.2.2.1 k y h).trans (a.2.2.1 k y h), b.2.2.2.trans a.2.2.2⟩
theorem kp_f.A {W : cw} {k : Nat} {f : Nat → Int32} (h : k = 28 ∨ k = 29 ∨ k = 30) : kp_f W (cw_A W k f) := ⟨fun j h1 h2 h3 => cw_An _ _ _ (by omega), rfl, fun _ _ _ => rfl, rfl⟩
theorem kp_f.I {W : cw} {y : Nat} {v : Int32} (h : y = 12 ∨ y = 13) : kp_f W (cw_I W 22 y v) := ⟨fun _ _ _ _ => rfl, rfl, fun k z hk => if_neg (fun q => hk ⟨q.1, by rw [q.2]; exact h⟩), rfl⟩
theorem kp_f.N {W W2 : cw} (a : kp_f W W2) : kn_f W W2 := ⟨fun k h => a.1 k (by omega) (by omega) (by omega), a.2.1, fun k y h => a.2.2.1 k y (fun q => h q.1), a.2.2.2⟩
theorem kp_f.H {W W2 : cw} (a : kp_f W W2) {H : List hA} {N : Nat} (K : nt_H W H N) : nt_H W2 H N := ⟨(a.2.2.1 22 10 (by decide)).trans K.1, (a.2.2.1 22 11 (by decide)).trans K.2.1, fun i hi => by rw [a.1 24 (by decide) (by decide) (by decide), a.1 27 (by decide) (by decide) (by decide)]; exact K.2.2.1 i hi, fun x hx => by rw [a.1 25 (by decide) (by decide) (by decide), a.1 23 (by decide) (by decide) (by decide)]; exact K.2.2.2 x hx⟩
theorem kp_f.R {W W2 : cw} (a : kp_f W W2) {n : Nat} {r : Nat → Int} (K : nt_R W n r) : nt_R W2 n r := fun i hi => by rw [a.1 26 (by decide) (by decide) (by decide)]; exact K i hi
section
variable {W : cw} {g : Nat → Option jx_E} {nx s : Nat} {H : List hA} {N : Nat} {r p : Nat → Int}
theorem kc_enqueue (hW : W.2.2.1 22 10 = nI N) (hN : N ≤ 1324) (st : sp_S) (first b : Nat) (hb : b < N) (S : nt_S W N st first) (nd : b ∉ st.2 → st.2.length < N) : ∃ W2, jx_T 41 0 (jx_ent 41 [.ref 22, .int (nI b)]) [] (hc W g nx s) none (hc W2 g nx s) ∧ nt_S W2 N (st.1, if b ∈ st.2 then st.2 else st.2 ++ [b]) first ∧ kp_f W W2 := by
  obtain ⟨s1, s2, s3, s4, s5⟩ := S
  have ib := (s4 b hb).2
  by_cases w : b ∈ st.2
  · rw [if_pos w]
    refine ⟨W, ?_, ⟨s1, s2, s3, s4, s5⟩, kp_f.rf⟩
    show jx_T 41 0 [.ref 22, .int (nI b)] [] _ _ _
    refine jx_T.step (pc' := 1) (st' := [_]) rfl rfl ?_
    refine cl.get 22 (by decide) rfl (cw_c22 _) rfl ?_
    refine jx_T.step (pc' := 5) (st' := [_, _]) rfl rfl ?_
    refine cl.bald 30 (by decide) rfl (cw_c30 _) (Or.inr rfl) (rf_ix (by omega) (by decide)) ?_
    rw [nI_clamp (by omega), ib, if_pos w]
    refine cl.brn rfl (fun _ => ?_) (fun zq => absurd zq (by decide))
    exact jx_T.ret rfl rfl
  · rw [if_neg w]
    have hl := nd w
    obtain ⟨W1, e1⟩ : ∃ W1, W1 = cw_A W 30 (upd (W.1 30) b 1) := ⟨_, rfl⟩
    obtain ⟨W2, e2⟩ : ∃ W2, W2 = cw_A W1 29 (upd (W1.1 29) ((first + st.2.length) % N) (nI b)) := ⟨_, rfl⟩
    have i1 : W1.2 = W.2 := by rw [e1]; rfl
    have i2 : W2.2 = W.2 := by rw [e2]; exact i1
    have t28 : W2.1 28 = W.1 28 := by rw [e2, cw_An _ _ _ (by decide), e1, cw_An _ _ _ (by decide)]
    have t29 : W2.1 29 = upd (W.1 29) ((first + st.2.length) % N) (nI b) := by rw [e2, cw_Ae, e1, cw_An _ _ _ (by decide)]
    have t30 : W2.1 30 = upd (W.1 30) b 1 := by rw [e2, cw_An _ _ _ (by decide), e1, cw_Ae]
    refine ⟨cw_I W2 22 13 (nI (st.2.length + 1)), ?_, ⟨s1, ?_, ?_, fun v hv => ?_, fun j hj => ?_⟩, ?_⟩
    · show jx_T 41 0 [.ref 22, .int (nI b)] [] _ _ _
      refine jx_T.step (pc' := 1) (st' := [_]) rfl rfl ?_
      refine cl.get 22 (by decide) rfl (cw_c22 _) rfl ?_
      refine jx_T.step (pc' := 5) (st' := [_, _]) rfl rfl ?_
      refine cl.bald 30 (by decide) rfl (cw_c30 _) (Or.inr rfl) (rf_ix (by omega) (by decide)) ?_
      rw [nI_clamp (by omega), ib, if_neg w]
      refine cl.brn rfl (fun zq => absurd (rfl) zq) (fun _ => ?_)
      refine jx_T.step (pc' := 10) (st' := [_]) rfl rfl ?_
      refine cl.get 22 (by decide) rfl (cw_c22 _) rfl ?_
      refine jx_T.step (pc' := 14) (st' := [_, _]) rfl rfl ?_
      refine cl.get 22 (by decide) rfl (cw_c22 _) rfl ?_
      rw [s3, hW]
      refine cl.bc rfl (jx_br_ge _ _) (fun zq => absurd zq (nI_ge hl (by omega))) (fun _ => ?_)
      refine jx_T.step (pc' := 21) (st' := [_]) rfl rfl ?_
      refine cl.get 22 (by decide) rfl (cw_c22 _) rfl ?_
      refine jx_T.step (pc' := 25) (st' := [_, _]) rfl rfl ?_
      refine jx_T.step (pc' := 26) (st' := [_, _, _]) rfl rfl ?_
      refine cl.zast 30 (by decide) rfl (cw_c30 _) (cw_s30 _) (rf_ix (by omega) (by decide)) ?_
      rw [nI_clamp (by omega), show vp_nar .boolean 1 = 1 from by decide, ← e1]
      refine jx_T.step (pc' := 28) (st' := [_]) rfl rfl ?_
      refine cl.get 22 (by decide) rfl (cw_c22 _) rfl ?_
      refine jx_T.step (pc' := 32) (st' := [_, _]) rfl rfl ?_
      refine cl.get 22 (by decide) rfl (cw_c22 _) rfl ?_
      refine jx_T.step (pc' := 36) (st' := [_, _, _]) rfl rfl ?_
      refine cl.get 22 (by decide) rfl (cw_c22 _) rfl ?_
      refine jx_T.step (pc' := 40) (st' := [_, _]) rfl rfl ?_
      rw [i1, s2, s3, nI_add]
      refine jx_T.step (pc' := 41) (st' := [_, _, _]) rfl rfl ?_
      refine cl.get 22 (by decide) rfl (cw_c22 _) rfl ?_
      rw [i1, hW]
      refine cl.irem rfl (fun q => absurd ((nI_z (by omega)).mp q) (by omega)) ?_
      rw [pk_rem (by omega) (by omega) (by omega)]
      refine jx_T.step (pc' := 46) (st' := [_, _, _]) rfl rfl ?_
      refine cl.iast 29 (by decide) rfl (cw_c29 _) (cw_s29 _) (rf_ix (Nat.lt_of_lt_of_le (Nat.mod_lt _ (by omega)) (show N ≤ 1324 by omega)) (by decide)) ?_
      rw [nI_clamp (Nat.lt_of_lt_of_le (Nat.mod_lt _ (by omega)) (show N ≤ 2 ^ 31 by omega)), ← e2]
      refine jx_T.step (pc' := 48) (st' := [_]) rfl rfl ?_
      refine jx_T.step (pc' := 49) (st' := [_, _]) rfl rfl ?_
      refine cl.get 22 (by decide) rfl (cw_c22 _) rfl ?_
      rw [i2, s3]
      refine jx_T.step (pc' := 53) (st' := [_, _, _]) rfl rfl ?_
      refine jx_T.step (pc' := 54) (st' := [_, _]) rfl rfl ?_
      rw [nI_1]
      refine cl.put 22 (by decide) rfl (cw_c22 _) (Nat.le_of_ble_eq_true rfl) rfl (cw_f22_13 _ _) ?_
      exact jx_T.ret rfl rfl
    · show W2.2.2.1 22 12 = nI first
      rw [i2]
      exact s2
    · rw [List.length_append, List.length_singleton]
      rfl
    · show W2.1 28 v = np_rep (st.1 v) ∧ W2.1 30 v = if v ∈ st.2 ++ [b] then 1 else 0
      rw [t28, t30]
      refine ⟨(s4 v hv).1, ?_⟩
      unfold upd
      by_cases e : v = b
      · rw [if_pos e, if_pos (by rw [e]; simp)]
      · rw [if_neg e, (s4 v hv).2]
        have : v ∈ st.2 ++ [b] ↔ v ∈ st.2 := by
          rw [List.mem_append, List.mem_singleton]
          exact ⟨fun h => h.resolve_right e, Or.inl⟩
        simp only [this]
    · rw [List.length_append, List.length_singleton] at hj
      show W2.1 29 _ = _
      rw [t29]
      unfold upd
      by_cases e : j = st.2.length
      · rw [if_pos (by rw [e]), e]
        simp [List.getD_eq_getElem?_getD]
      · have hj2 : j < st.2.length := by omega
        rw [if_neg (fun q => e (by
          rw [Nat_modw s1 (show j < N by omega), Nat_modw s1 (show st.2.length < N by omega)] at q
          split at q <;> split at q <;> omega)), s5 j hj2]
        simp [List.getD_eq_getElem?_getD, List.getElem?_append, hj2]
    · rw [e2, e1]
      exact ((kp_f.A (by decide)).tr (kp_f.A (by decide))).tr (kp_f.I (by decide))
end
