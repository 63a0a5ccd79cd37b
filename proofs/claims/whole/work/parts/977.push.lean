/-! the works' network: open links, a path pushed, a path cut -/
def op_b (F : Nat → Option Int) (H : List hA) (r : Nat → Int) (sn : Nat → Bool) (i : Nat) : Bool := !(decide (r i = 0)) && (!(sn (H.getD i hd).2.1) && (match F (H.getD i hd).1 with | none => false | some x => decide (F (H.getD i hd).2.1 = some (x + (H.getD i hd).2.2.toInt))))
def op_ans : List Nat → Int32
  | [] => -1
  | i :: _ => nI i
theorem np_inj {y : Int} (h : -2 ^ 29 ≤ y ∧ y ≤ 2 ^ 29) {o : Option Int} (ho : ∀ z, o = some z → -2 ^ 29 ≤ z ∧ z ≤ 2 ^ 29) : np_rep (some y) = np_rep o ↔ o = some y := by
  constructor
  · intro e
    have e2 := congrArg Int32.toInt e
    rw [np_some (by omega)] at e2
    cases o with
    | none =>
      rw [np_none] at e2
      omega
    | some z =>
      have := ho z rfl
      rw [np_some (by omega)] at e2
      rw [e2]
  · intro e
    rw [e]
section
variable {W : cw} {g : Nat → Option jx_E} {nx s : Nat} {H : List hA} {N : Nat} {r : Nat → Int} {F : Nat → Option Int} {sn : Nat → Bool}
theorem kc_isOpen (wf : nq_wf H N) (K : nt_H W H N) (R : nt_R W H.length r) (hr : ∀ i, i < H.length → 0 ≤ r i) (hF : ∀ v, v < N → W.1 28 v = np_rep (F v)) (sm : ∀ v x, F v = some x → -2 ^ 24 ≤ x ∧ x ≤ 2 ^ 24) (hS : ∀ v, v < N → W.1 30 v = if sn v = true then 1 else 0) (a i : Nat) (hi : i < H.length) (hia : (H.getD i hd).1 = a) {x : Int} (hx : F a = some x) : jx_T 48 0 (jx_ent 48 [.ref 22, .int (nI a), .int (nI i)]) [] (hc W g nx s) (some (.int (rf_o (op_b F H r sn i = true)))) (hc W g nx s) := by
  have hH := wf.1
  have hN := wf.2.1
  obtain ⟨w1, w2, w3, w4⟩ := wf.2.2 i hi
  obtain ⟨t1, t2⟩ := K.2.2.1 i hi
  have Ri := R i hi
  have hri := hr i hi
  have fa := hF a (by omega)
  rw [hx] at fa
  have fb := hF _ w2
  have sb := hS _ w2
  have sx := sm a x hx
  unfold op_b
  rw [hia, hx]
  generalize hb : (H.getD i hd).2.1 = b at *
  generalize hcost : (H.getD i hd).2.2 = c at *
  show jx_T 48 0 [.ref 22, .int (nI a), .int (nI i)] [] _ _ _
  refine jx_T.step (pc' := 1) (st' := [_]) rfl rfl ?_
  refine cl.get 22 (by decide) rfl (cw_c22 _) rfl ?_
  refine jx_T.step (pc' := 5) (st' := [_, _]) rfl rfl ?_
  refine cl.iald 26 (by decide) rfl (cw_c26 _) (rf_ix (by omega) (by decide)) ?_
  rw [nI_clamp (by omega)]
  by_cases z : r i = 0
  · rw [rf_of (by rw [decide_eq_true z]; simp)]
    refine cl.br rfl (jx_br_le _ _) (fun _ => ?_) (fun zq => absurd (Int32.le_iff_toInt_le.mpr (by rw [Ri, z]; decide)) zq)
    refine jx_T.step (pc' := 55) (st' := [_]) rfl rfl ?_
    exact jx_T.ret rfl rfl
  · refine cl.br rfl (jx_br_le _ _) (fun zq => absurd zq (fun q => by have := Int32.le_iff_toInt_le.mp q; rw [Ri, show (0 : Int32).toInt = 0 from by decide] at this; omega)) (fun _ => ?_)
    refine jx_T.step (pc' := 10) (st' := [_]) rfl rfl ?_
    refine cl.get 22 (by decide) rfl (cw_c22 _) rfl ?_
    refine jx_T.step (pc' := 14) (st' := [_, _]) rfl rfl ?_
    refine cl.get 22 (by decide) rfl (cw_c22 _) rfl ?_
    refine jx_T.step (pc' := 18) (st' := [_, _, _]) rfl rfl ?_
    refine cl.iald 24 (by decide) rfl (cw_c24 _) (rf_ix (by omega) (by decide)) ?_
    rw [nI_clamp (by omega), t1]
    refine cl.bald 30 (by decide) rfl (cw_c30 _) (Or.inr rfl) (rf_ix (by omega) (by decide)) ?_
    rw [nI_clamp (by omega), sb]
    by_cases y : sn b = true
    · rw [if_pos y, rf_of (by rw [y]; simp)]
      refine cl.brn rfl (fun _ => ?_) (fun zq => absurd zq (by decide))
      refine jx_T.step (pc' := 55) (st' := [_]) rfl rfl ?_
      exact jx_T.ret rfl rfl
    · rw [if_neg y]
      refine cl.brn rfl (fun zq => absurd (rfl) zq) (fun _ => ?_)
      refine jx_T.step (pc' := 24) (st' := [_]) rfl rfl ?_
      refine cl.get 22 (by decide) rfl (cw_c22 _) rfl ?_
      refine jx_T.step (pc' := 28) (st' := [_, _]) rfl rfl ?_
      refine cl.iald 28 (by decide) rfl (cw_c28 _) (rf_ix (by omega) (by decide)) ?_
      rw [nI_clamp (by omega), fa]
      refine jx_T.step (pc' := 30) (st' := [_, _]) rfl rfl ?_
      refine cl.get 22 (by decide) rfl (cw_c22 _) rfl ?_
      refine jx_T.step (pc' := 34) (st' := [_, _, _]) rfl rfl ?_
      refine cl.iald 27 (by decide) rfl (cw_c27 _) (rf_ix (by omega) (by decide)) ?_
      rw [nI_clamp (by omega), t2]
      refine jx_T.step (pc' := 36) (st' := [_]) rfl rfl ?_
      rw [np_add (by omega) ⟨w3, w4⟩]
      refine jx_T.step (pc' := 37) (st' := [_, _]) rfl rfl ?_
      refine cl.get 22 (by decide) rfl (cw_c22 _) rfl ?_
      refine jx_T.step (pc' := 41) (st' := [_, _, _]) rfl rfl ?_
      refine cl.get 22 (by decide) rfl (cw_c22 _) rfl ?_
      refine jx_T.step (pc' := 45) (st' := [_, _, _, _]) rfl rfl ?_
      refine cl.iald 24 (by decide) rfl (cw_c24 _) (rf_ix (by omega) (by decide)) ?_
      rw [nI_clamp (by omega), t1]
      refine cl.iald 28 (by decide) rfl (cw_c28 _) (rf_ix (by omega) (by decide)) ?_
      rw [nI_clamp (by omega), fb]
      have ij := np_inj (y := x + c.toInt) (by omega) (o := F b) (fun w hw => by have := sm b w hw; omega)
      by_cases q : F b = some (x + c.toInt)
      · rw [rf_ot (by
          dsimp only
          rw [decide_eq_false z, decide_eq_true q]
          simp [y])]
        refine cl.bcn rfl (fun w => absurd (ij.mpr q) w) (fun _ => ?_)
        refine jx_T.step (pc' := 51) (st' := [_]) rfl rfl ?_
        refine jx_T.step (pc' := 55) (st' := [_]) rfl rfl ?_
        exact jx_T.ret rfl rfl
      · rw [rf_of (by
          dsimp only
          rw [decide_eq_false q]
          simp)]
        refine cl.bcn rfl (fun _ => ?_) (fun w => absurd (ij.mp w) q)
        refine jx_T.step (pc' := 55) (st' := [_]) rfl rfl ?_
        exact jx_T.ret rfl rfl
theorem kc_openLink (wf : nq_wf H N) (K : nt_H W H N) (R : nt_R W H.length r) (hr : ∀ i, i < H.length → 0 ≤ r i) (hF : ∀ v, v < N → W.1 28 v = np_rep (F v)) (sm : ∀ v x, F v = some x → -2 ^ 24 ≤ x ∧ x ≤ 2 ^ 24) (hS : ∀ v, v < N → W.1 30 v = if sn v = true then 1 else 0) (a : Nat) (ha : a < N) {x : Int} (hx : F a = some x) (l : List Nat) (hl : l.length ≤ H.length) (hla : ∀ i, i ∈ l → i ∈ hg_adj H a) (hc0 : ch (W.1 25) (W.1 31 a) l) : jx_T 47 0 (jx_ent 47 [.ref 22, .int (nI a)]) [] (hc W g nx s) (some (.int (op_ans (l.dropWhile (fun i => !(op_b F H r sn i)))))) (hc (cw_A W 31 (upd (W.1 31) a (op_ans (l.dropWhile (fun i => !(op_b F H r sn i)))))) g nx s) ∧ ch (W.1 25) (op_ans (l.dropWhile (fun i => !(op_b F H r sn i)))) (l.dropWhile (fun i => !(op_b F H r sn i))) := by
  have hH := wf.1
  have hN := wf.2.1
  have fin : ∀ (e n : Int32), jx_T 47 43 [.ref 22, .int (nI a), .int e, .int n] [] (hc W g nx s) (some (.int e)) (hc (cw_A W 31 (upd (W.1 31) a e)) g nx s) := by
    intro e n
    refine jx_T.step (pc' := 44) (st' := [_]) rfl rfl ?_
    refine cl.get 22 (by decide) rfl (cw_c22 _) rfl ?_
    refine jx_T.step (pc' := 48) (st' := [_, _]) rfl rfl ?_
    refine jx_T.step (pc' := 49) (st' := [_, _, _]) rfl rfl ?_
    refine cl.iast 31 (by decide) rfl (cw_c31 _) (cw_s31 _) (rf_ix (by omega) (by decide)) ?_
    rw [nI_clamp (by omega)]
    refine jx_T.step (pc' := 51) (st' := [_]) rfl rfl ?_
    exact jx_T.ret rfl rfl
  have loop : ∀ (l : List Nat) (e : Int32) (n : Nat), n + l.length ≤ H.length → (∀ i, i ∈ l → i ∈ hg_adj H a) → ch (W.1 25) e l → jx_T 47 9 [.ref 22, .int (nI a), .int e, .int (nI n)] [] (hc W g nx s) (some (.int (op_ans (l.dropWhile (fun i => !(op_b F H r sn i)))))) (hc (cw_A W 31 (upd (W.1 31) a (op_ans (l.dropWhile (fun i => !(op_b F H r sn i)))))) g nx s) ∧ ch (W.1 25) (op_ans (l.dropWhile (fun i => !(op_b F H r sn i)))) (l.dropWhile (fun i => !(op_b F H r sn i))) := by
    intro l
    induction l with
    | nil =>
      intro e n hn _ hch
      have he : e = -1 := hch
      subst he
      refine ⟨?_, rfl⟩
      show jx_T 47 9 _ _ _ (some (.int (-1))) (hc (cw_A W 31 (upd (W.1 31) a (-1))) g nx s)
      refine jx_T.step (pc' := 10) (st' := [_]) rfl rfl ?_
      refine jx_T.step (pc' := 11) (st' := [_, _]) rfl rfl ?_
      refine cl.get 22 (by decide) rfl (cw_c22 _) rfl ?_
      rw [K.2.1]
      by_cases z : H.length ≤ n
      · refine cl.bc rfl (jx_br_ge _ _) (fun _ => ?_) (fun zq => absurd (nI_le z (by have : n + 0 ≤ H.length := hn; omega)) zq)
        exact fin _ _
      · refine cl.bc rfl (jx_br_ge _ _) (fun zq => absurd zq (nI_ge (by omega) (by omega))) (fun _ => ?_)
        refine jx_T.step (pc' := 18) (st' := [_]) rfl rfl ?_
        refine cl.br rfl (jx_br_lt _ _) (fun _ => ?_) (fun zq => absurd (by decide) zq)
        exact fin _ _
    | cons i l ih =>
      intro e n hn hla hch
      obtain ⟨he, hc2⟩ := hch
      subst he
      rw [List.length_cons] at hn
      obtain ⟨hi, hia⟩ := hg_mem.mp (hla i (List.mem_cons_self ..))
      have co := kc_isOpen (g := g) (nx := nx) (s := s) wf K R hr hF sm hS a i hi hia hx
      by_cases q : op_b F H r sn i = true
      · rw [List.dropWhile_cons_of_neg (by rw [q]; decide)]
        refine ⟨?_, rfl, hc2⟩
        show jx_T 47 9 _ _ _ (some (.int (nI i))) (hc (cw_A W 31 (upd (W.1 31) a (nI i))) g nx s)
        refine jx_T.step (pc' := 10) (st' := [_]) rfl rfl ?_
        refine jx_T.step (pc' := 11) (st' := [_, _]) rfl rfl ?_
        refine cl.get 22 (by decide) rfl (cw_c22 _) rfl ?_
        rw [K.2.1]
        refine cl.bc rfl (jx_br_ge _ _) (fun zq => absurd zq (nI_ge (by omega) (by omega))) (fun _ => ?_)
        refine jx_T.step (pc' := 18) (st' := [_]) rfl rfl ?_
        refine cl.br rfl (jx_br_lt _ _) (fun zq => absurd zq (nI_pos (by omega))) (fun _ => ?_)
        refine jx_T.step (pc' := 22) (st' := [_]) rfl rfl ?_
        refine jx_T.step (pc' := 23) (st' := [_, _]) rfl rfl ?_
        refine jx_T.step (pc' := 24) (st' := [_, _, _]) rfl rfl ?_
        refine cl.v2I (hc_fix 22 (by decide) (cw_c22 _)) rfl (by decide) rfl ⟨Nat.le_of_ble_eq_true rfl, rfl⟩ (Nat.le_of_ble_eq_true rfl) (co) ?_
        refine cl.brn rfl (fun _ => ?_) (fun zq => absurd zq (fun w => (rf_o_0 _).mp w q))
        exact fin _ _
      · rw [List.dropWhile_cons_of_pos (by simpa using q)]
        obtain ⟨t, c2⟩ := ih (W.1 25 i) (n + 1) (by omega) (fun j hj => hla j (List.mem_cons_of_mem _ hj)) hc2
        refine ⟨?_, c2⟩
        refine jx_T.step (pc' := 10) (st' := [_]) rfl rfl ?_
        refine jx_T.step (pc' := 11) (st' := [_, _]) rfl rfl ?_
        refine cl.get 22 (by decide) rfl (cw_c22 _) rfl ?_
        rw [K.2.1]
        refine cl.bc rfl (jx_br_ge _ _) (fun zq => absurd zq (nI_ge (by omega) (by omega))) (fun _ => ?_)
        refine jx_T.step (pc' := 18) (st' := [_]) rfl rfl ?_
        refine cl.br rfl (jx_br_lt _ _) (fun zq => absurd zq (nI_pos (by omega))) (fun _ => ?_)
        refine jx_T.step (pc' := 22) (st' := [_]) rfl rfl ?_
        refine jx_T.step (pc' := 23) (st' := [_, _]) rfl rfl ?_
        refine jx_T.step (pc' := 24) (st' := [_, _, _]) rfl rfl ?_
        refine cl.v2I (hc_fix 22 (by decide) (cw_c22 _)) rfl (by decide) rfl ⟨Nat.le_of_ble_eq_true rfl, rfl⟩ (Nat.le_of_ble_eq_true rfl) (co) ?_
        refine cl.brn rfl (fun zq => absurd ((rf_o_0 _).mpr q) zq) (fun _ => ?_)
        refine jx_T.step (pc' := 31) (st' := [_]) rfl rfl ?_
        refine cl.get 22 (by decide) rfl (cw_c22 _) rfl ?_
        refine jx_T.step (pc' := 35) (st' := [_, _]) rfl rfl ?_
        refine cl.iald 25 (by decide) rfl (cw_c25 _) (rf_ix (by omega) (by decide)) ?_
        rw [nI_clamp (by omega)]
        refine jx_T.step (pc' := 37) (ls' := [_, _, _, _]) (st' := []) rfl rfl ?_
        refine jx_T.step (pc' := 40) (ls' := [_, _, _, _]) (st' := []) rfl rfl ?_
        refine jx_T.step (pc' := 9) (st' := []) rfl rfl ?_
        rw [nI_1]
        exact t
  obtain ⟨t, c⟩ := loop l (W.1 31 a) 0 (by omega) hla hc0
  refine ⟨?_, c⟩
  show jx_T 47 0 [.ref 22, .int (nI a), .retAddr 0, .retAddr 0] [] _ _ _
  refine jx_T.step (pc' := 1) (st' := [_]) rfl rfl ?_
  refine cl.get 22 (by decide) rfl (cw_c22 _) rfl ?_
  refine jx_T.step (pc' := 5) (st' := [_, _]) rfl rfl ?_
  refine cl.iald 31 (by decide) rfl (cw_c31 _) (rf_ix (by omega) (by decide)) ?_
  rw [nI_clamp (by omega)]
  refine jx_T.step (pc' := 7) (ls' := [_, _, _, _]) (st' := []) rfl rfl ?_
  refine jx_T.step (pc' := 8) (st' := [_]) rfl rfl ?_
  refine jx_T.step (pc' := 9) (ls' := [_, _, _, _]) (st' := []) rfl rfl ?_
  exact t
/-- the least room of a path -/
def pm_min (r : Nat → Int) : Int → List Nat → Int
  | m, [] => m
  | m, i :: l => pm_min r (if r i < m then r i else m) l
theorem pm_min_le (r : Nat → Int) : ∀ (l : List Nat) (m : Int), pm_min r m l ≤ m ∧ ∀ i, i ∈ l → pm_min r m l ≤ r i
  | [], m => ⟨Int.le_refl _, fun i hi => absurd hi (by simp)⟩
  | i :: l, m => by
    obtain ⟨h1, h2⟩ := pm_min_le r l (if r i < m then r i else m)
    have h3 : (if r i < m then r i else m) ≤ m ∧ (if r i < m then r i else m) ≤ r i := by split <;> omega
    refine ⟨Int.le_trans h1 h3.1, fun j hj => ?_⟩
    rcases List.mem_cons.mp hj with rfl | hj
    · exact Int.le_trans h1 h3.2
    · exact h2 j hj
theorem pm_min_pos (r : Nat → Int) : ∀ (l : List Nat) (m : Int), 0 < m → (∀ i, i ∈ l → 0 < r i) → 0 < pm_min r m l
  | [], m, h, _ => h
  | i :: l, m, h, hl => pm_min_pos r l _ (by have := hl i (List.mem_cons_self ..); split <;> omega) (fun j hj => hl j (List.mem_cons_of_mem _ hj))
theorem kc_pushPath (W : cw) (A : List gA) (cap : Nat → Int) (hcap : ∀ e, e < A.length → cap e ≤ 2 ^ 28) (hA : A.length ≤ 5943) (R : nt_R W (2 * A.length) r) (ok : fl_ok A.length cap r) (l : List Nat) (hl : l.length ≤ 1324) (nd : l.Nodup) (hi : ∀ i, i ∈ l → i < 2 * A.length ∧ 0 < r i) (hp : ∀ j, j < l.length → W.1 32 j = nI (l.getD j 0)) : ∃ f, jx_T 45 0 (jx_ent 45 [.ref 22, .int (nI l.length)]) [] (hc W g nx s) (some (.int (Int32.ofInt (pm_min r 2147483647 l)))) (hc (cw_A W 26 f) g nx s) ∧ nt_R (cw_A W 26 f) (2 * A.length) (fl_up (pm_min r 2147483647 l) r l) := by
  have small : ∀ i, i < 2 * A.length → 0 ≤ r i ∧ r i ≤ 2 ^ 28 := fun i hi => by
    obtain ⟨e, he, h⟩ := pr_half hi
    have := ok e he
    have := hcap e he
    rcases h with h | h <;> rw [h] <;> omega
  have mn : ∀ (d k : Nat) (m : Int32) (v : Option Value) (h2 : jx_H), k + d = l.length → 0 < m.toInt → (jx_T 45 32 [.ref 22, .int (nI l.length), .int (Int32.ofInt (pm_min r m.toInt (l.drop k))), .int (nI l.length)] [] (hc W g nx s) v h2) → jx_T 45 5 [.ref 22, .int (nI l.length), .int m, .int (nI k)] [] (hc W g nx s) v h2 := by
    intro d
    induction d with
    | zero =>
      intro k m v h2 hk hm t
      obtain rfl : k = l.length := by omega
      rw [List.drop_length] at t
      rw [show pm_min r m.toInt [] = m.toInt from rfl, show Int32.ofInt m.toInt = m from Int32.ofInt_toInt m] at t
      refine jx_T.step (pc' := 6) (st' := [_]) rfl rfl ?_
      refine jx_T.step (pc' := 7) (st' := [_, _]) rfl rfl ?_
      refine cl.bc rfl (jx_br_ge _ _) (fun _ => ?_) (fun zq => absurd (Int32.le_refl _) zq)
      exact t
    | succ d ih =>
      intro k m v h2 hk hm t
      have hkl : k < l.length := by omega
      have ek : l.drop k = l.getD k 0 :: l.drop (k + 1) := by
        rw [List.drop_eq_getElem_cons hkl]
        simp [List.getD_eq_getElem?_getD, hkl]
      have hmem : l.getD k 0 ∈ l := by
        simp [List.getD_eq_getElem?_getD, hkl]
      obtain ⟨h1, h3⟩ := hi _ hmem
      have Rk := R _ h1
      rw [ek] at t
      have em : (if W.1 26 (l.getD k 0) < m then W.1 26 (l.getD k 0) else m).toInt = (if r (l.getD k 0) < m.toInt then r (l.getD k 0) else m.toInt) := by
        by_cases z : W.1 26 (l.getD k 0) < m
        · have z2 := Int32.lt_iff_toInt_lt.mp z
          rw [Rk] at z2
          rw [if_pos z, if_pos z2, Rk]
        · have z2 : ¬ r (l.getD k 0) < m.toInt := fun q => z (Int32.lt_iff_toInt_lt.mpr (by rw [Rk]; exact q))
          rw [if_neg z, if_neg z2]
      refine jx_T.step (pc' := 6) (st' := [_]) rfl rfl ?_
      refine jx_T.step (pc' := 7) (st' := [_, _]) rfl rfl ?_
      refine cl.bc rfl (jx_br_ge _ _) (fun zq => absurd zq (nI_ge (by omega) (by omega))) (fun _ => ?_)
      refine jx_T.step (pc' := 11) (st' := [_]) rfl rfl ?_
      refine jx_T.step (pc' := 12) (st' := [_, _]) rfl rfl ?_
      refine cl.get 22 (by decide) rfl (cw_c22 _) rfl ?_
      refine jx_T.step (pc' := 16) (st' := [_, _, _]) rfl rfl ?_
      refine cl.get 22 (by decide) rfl (cw_c22 _) rfl ?_
      refine jx_T.step (pc' := 20) (st' := [_, _, _, _]) rfl rfl ?_
      refine cl.iald 32 (by decide) rfl (cw_c32 _) (rf_ix (by omega) (by decide)) ?_
      rw [nI_clamp (by omega), hp k hkl]
      refine cl.iald 26 (by decide) rfl (cw_c26 _) (rf_ix (by omega) (by decide)) ?_
      rw [nI_clamp (by omega)]
      refine cl.s2I rfl (by decide) rfl (Nat.le_of_ble_eq_true rfl) (Nat.le_of_ble_eq_true rfl) (kc_min _ _ _) ?_
      refine jx_T.step (pc' := 26) (ls' := [_, _, _, _]) (st' := []) rfl rfl ?_
      refine jx_T.step (pc' := 29) (ls' := [_, _, _, _]) (st' := []) rfl rfl ?_
      refine jx_T.step (pc' := 5) (st' := []) rfl rfl ?_
      rw [nI_1]
      refine ih (k + 1) _ v h2 (by omega) ?_ ?_
      · rw [em]
        split <;> omega
      · rw [em]
        exact t
  obtain ⟨δ, eδ⟩ : ∃ δ, δ = pm_min r 2147483647 l := ⟨_, rfl⟩
  have hδ0 : 0 < δ := by rw [eδ]; exact pm_min_pos r l _ (by decide) (fun i h => (hi i h).2)
  have hδ1 : ∀ i, i ∈ l → δ ≤ r i := by rw [eδ]; exact (pm_min_le r l 2147483647).2
  have hδ2 : δ ≤ 2147483647 := by rw [eδ]; exact (pm_min_le r l 2147483647).1
  have eI : (Int32.ofInt δ).toInt = δ := by
    rw [Int32.toInt_ofInt, show Int32.size = 2 ^ 32 from rfl]
    exact Int.bmod_eq_of_le (by omega) (by omega)
  rw [← eδ]
  have ps : ∀ (d k : Nat) (r1 : Nat → Int) (f : Nat → Int32), k + d = l.length → fl_ok A.length cap r1 → nt_R (cw_A W 26 f) (2 * A.length) r1 → (∀ i, i ∈ l.drop k → δ ≤ r1 i) → ∃ f2, jx_T 45 34 [.ref 22, .int (nI l.length), .int (Int32.ofInt δ), .int (nI k)] [] (hc (cw_A W 26 f) g nx s) (some (.int (Int32.ofInt δ))) (hc (cw_A W 26 f2) g nx s) ∧ nt_R (cw_A W 26 f2) (2 * A.length) (fl_up δ r1 (l.drop k)) := by
    intro d
    induction d with
    | zero =>
      intro k r1 f hk ok1 R1 _
      obtain rfl : k = l.length := by omega
      rw [List.drop_length]
      refine ⟨f, ?_, R1⟩
      refine jx_T.step (pc' := 35) (st' := [_]) rfl rfl ?_
      refine jx_T.step (pc' := 36) (st' := [_, _]) rfl rfl ?_
      refine cl.bc rfl (jx_br_ge _ _) (fun _ => ?_) (fun zq => absurd (Int32.le_refl _) zq)
      refine jx_T.step (pc' := 78) (st' := [_]) rfl rfl ?_
      exact jx_T.ret rfl rfl
    | succ d ih =>
      intro k r1 f hk ok1 R1 hd1
      have hkl : k < l.length := by omega
      have ek : l.drop k = l.getD k 0 :: l.drop (k + 1) := by
        rw [List.drop_eq_getElem_cons hkl]
        simp [List.getD_eq_getElem?_getD, hkl]
      have hmem : l.getD k 0 ∈ l := by
        simp [List.getD_eq_getElem?_getD, hkl]
      obtain ⟨h1, h3⟩ := hi _ hmem
      rw [ek] at hd1 ⊢
      have nd2 : (l.getD k 0 :: l.drop (k + 1)).Nodup := by
        rw [← ek]
        exact nd.sublist (List.drop_sublist _ _)
      generalize ei : l.getD k 0 = i at *
      have d0 := hd1 i (List.mem_cons_self ..)
      obtain ⟨e, he, hie⟩ := pr_half h1
      have oke := ok1 e he
      have cpe := hcap e he
      have hx : i ^^^ 1 < 2 * A.length ∧ i ^^^ 1 ≠ i ∧ 0 ≤ r1 i ∧ 0 ≤ r1 (i ^^^ 1) ∧ r1 i + r1 (i ^^^ 1) = cap e := by
        rcases hie with h | h
        · rw [h, fl_x0]
          exact ⟨by omega, by omega, oke.1, oke.2.1, oke.2.2⟩
        · rw [h, fl_x1]
          exact ⟨by omega, by omega, oke.2.1, oke.1, by omega⟩
      have Ri : (f i).toInt = r1 i := by have := R1 i h1; rw [cw_Ae] at this; exact this
      have Rx : (f (i ^^^ 1)).toInt = r1 (i ^^^ 1) := by have := R1 _ hx.1; rw [cw_Ae] at this; exact this
      obtain ⟨f1, ef1⟩ : ∃ f1, f1 = upd f i (f i - Int32.ofInt δ) := ⟨_, rfl⟩
      obtain ⟨f2, ef2⟩ : ∃ f2, f2 = upd f1 (i ^^^ 1) (f1 (i ^^^ 1) + Int32.ofInt δ) := ⟨_, rfl⟩
      have g1 : f1 (i ^^^ 1) = f (i ^^^ 1) := by rw [ef1]; exact rf_up_ne hx.2.1
      have R2 : nt_R (cw_A W 26 f2) (2 * A.length) (fl_one r1 δ i) := by
        intro j hj
        rw [cw_Ae, ef2]
        unfold upd fl_one
        by_cases ej : j = i ^^^ 1
        · rw [if_pos ej, if_neg (by rw [ej]; exact hx.2.1), if_pos ej, g1, Int32.toInt_add, Rx, eI, ej]
          exact Int.bmod_eq_of_le (by omega) (by omega)
        · rw [if_neg ej, ef1]
          unfold upd
          by_cases ej2 : j = i
          · rw [if_pos ej2, if_pos ej2, Int32.toInt_sub, Ri, eI]
            exact Int.bmod_eq_of_le (by omega) (by omega)
          · rw [if_neg ej2, if_neg ej2, if_neg ej]
            have := R1 j hj
            rw [cw_Ae] at this
            exact this
      obtain ⟨f3, t, R3⟩ := ih (k + 1) (fl_one r1 δ i) f2 (by omega) (fl_one_ok (by omega) d0 ok1) R2 (fun j hj => by
        have hne : j ≠ i := fun q => (List.nodup_cons.mp nd2).1 (by rw [← q]; exact hj)
        exact Int.le_trans (hd1 j (List.mem_cons_of_mem _ hj)) (fl_one_ge (by omega) hne))
      refine ⟨f3, ?_, R3⟩
      have AA : ∀ f f', cw_A (cw_A W 26 f) 26 f' = cw_A W 26 f' := by
        intro f f'
        refine Prod.ext ?_ rfl
        funext j
        show (if j = 26 then f' else if j = 26 then f else W.1 j) = if j = 26 then f' else W.1 j
        by_cases q : j = 26
        · rw [if_pos q, if_pos q]
        · rw [if_neg q, if_neg q, if_neg q]
      have hp2 : ∀ f, (cw_A W 26 f).1 32 k = nI i := fun f => by rw [cw_An _ _ _ (by decide), hp k hkl, ei]
      refine jx_T.step (pc' := 35) (st' := [_]) rfl rfl ?_
      refine jx_T.step (pc' := 36) (st' := [_, _]) rfl rfl ?_
      refine cl.bc rfl (jx_br_ge _ _) (fun zq => absurd zq (nI_ge (by omega) (by omega))) (fun _ => ?_)
      refine jx_T.step (pc' := 40) (st' := [_]) rfl rfl ?_
      refine cl.get 22 (by decide) rfl (cw_c22 _) rfl ?_
      refine jx_T.step (pc' := 44) (st' := [_, _]) rfl rfl ?_
      refine cl.get 22 (by decide) rfl (cw_c22 _) rfl ?_
      refine jx_T.step (pc' := 48) (st' := [_, _, _]) rfl rfl ?_
      refine cl.iald 32 (by decide) rfl (cw_c32 _) (rf_ix (by omega) (by decide)) ?_
      rw [nI_clamp (by omega), hp2]
      refine jx_T.step (pc' := 50) (st' := [_, _, _, _]) rfl rfl ?_
      refine cl.iald 26 (by decide) rfl (cw_c26 _) (rf_ix (by omega) (by decide)) ?_
      rw [nI_clamp (by omega), cw_Ae]
      refine jx_T.step (pc' := 52) (st' := [_, _, _, _]) rfl rfl ?_
      refine jx_T.step (pc' := 53) (st' := [_, _, _]) rfl rfl ?_
      refine cl.iast 26 (by decide) rfl (cw_c26 _) (cw_s26 _) (rf_ix (by omega) (by decide)) ?_
      rw [nI_clamp (by omega), cw_Ae, AA, ← ef1]
      refine jx_T.step (pc' := 55) (st' := [_]) rfl rfl ?_
      refine cl.get 22 (by decide) rfl (cw_c22 _) rfl ?_
      refine jx_T.step (pc' := 59) (st' := [_, _]) rfl rfl ?_
      refine cl.get 22 (by decide) rfl (cw_c22 _) rfl ?_
      refine jx_T.step (pc' := 63) (st' := [_, _, _]) rfl rfl ?_
      refine cl.iald 32 (by decide) rfl (cw_c32 _) (rf_ix (by omega) (by decide)) ?_
      rw [nI_clamp (by omega), hp2]
      refine jx_T.step (pc' := 65) (st' := [_, _, _]) rfl rfl ?_
      refine jx_T.step (pc' := 66) (st' := [_, _]) rfl rfl ?_
      rw [rf_lit 1, bt_xor]
      refine jx_T.step (pc' := 67) (st' := [_, _, _, _]) rfl rfl ?_
      refine cl.iald 26 (by decide) rfl (cw_c26 _) (rf_ix (by omega) (by decide)) ?_
      rw [nI_clamp (by omega), cw_Ae]
      refine jx_T.step (pc' := 69) (st' := [_, _, _, _]) rfl rfl ?_
      refine jx_T.step (pc' := 70) (st' := [_, _, _]) rfl rfl ?_
      refine cl.iast 26 (by decide) rfl (cw_c26 _) (cw_s26 _) (rf_ix (by omega) (by decide)) ?_
      rw [nI_clamp (by omega), cw_Ae, AA, ← ef2]
      refine jx_T.step (pc' := 74) (ls' := [_, _, _, _]) (st' := []) rfl rfl ?_
      refine jx_T.step (pc' := 34) (st' := []) rfl rfl ?_
      rw [nI_1]
      exact t
  have WW : cw_A W 26 (W.1 26) = W := by
    refine Prod.ext ?_ rfl
    funext j
    show (if j = 26 then W.1 26 else W.1 j) = W.1 j
    by_cases q : j = 26
    · rw [if_pos q, q]
    · rw [if_neg q]
  obtain ⟨f, t, Rf⟩ := ps l.length 0 r (W.1 26) (by omega) ok (by rw [WW]; exact R) (fun i h => hδ1 i h)
  refine ⟨f, ?_, Rf⟩
  show jx_T 45 0 [.ref 22, .int (nI l.length), .retAddr 0, .retAddr 0] [] _ _ _
  refine jx_T.step (pc' := 2) (st' := [_]) rfl rfl ?_
  refine jx_T.step (pc' := 3) (ls' := [_, _, _, _]) (st' := []) rfl rfl ?_
  refine jx_T.step (pc' := 4) (st' := [_]) rfl rfl ?_
  refine jx_T.step (pc' := 5) (ls' := [_, _, _, _]) (st' := []) rfl rfl ?_
  refine mn l.length 0 _ _ _ (by omega) (by decide) ?_
  rw [List.drop_zero, show (2147483647 : Int32).toInt = 2147483647 from by decide, ← eδ]
  refine jx_T.step (pc' := 33) (st' := [_]) rfl rfl ?_
  refine jx_T.step (pc' := 34) (ls' := [_, _, _, _]) (st' := []) rfl rfl ?_
  rw [WW] at t
  exact t
end
