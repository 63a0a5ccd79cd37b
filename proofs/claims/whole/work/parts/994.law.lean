/-! the law's loop and its beginning -/
theorem lw_31 (x : Int32) : ∃ k, k < 32 ∧ x &&& 31 = nI k := by
  refine ⟨(x.toBitVec &&& 31#32).toNat, ?_, ?_⟩
  · rw [BitVec.toNat_and]
    exact Nat.lt_of_le_of_lt Nat.and_le_right (by decide)
  · apply Int32.toBitVec_inj.mp
    show x.toBitVec &&& 31#32 = BitVec.ofNat 32 _
    rw [BitVec.ofNat_toNat, BitVec.setWidth_eq]
section
variable {L : Nat} {xs : Nat → Int32} {i : Nat} {h h2 : jx_H} {v : Option Value}
theorem lw_sub (hL : L ≤ 3072) : (Int32.ofNat L - 6).toInt = (L : Int) - 6 := by
  have h1 : (Int32.ofNat L).toInt = (L : Int) := nI_toInt (n := L) (by omega)
  rw [Int32.toInt_sub, h1, show (6 : Int32).toInt = 6 from by decide]
  exact Int.bmod_eq_of_le (by omega) (by omega)
theorem lw_hd (hsc : lw_sc L xs h) (hq : i + 6 ≤ L) (hL : L ≤ 3072) (t : jx_T 215 33 (lw_ls i) [.int (xs i &&& 31)] h v h2) : jx_T 215 18 (lw_ls i) [] h v h2 := by
  refine jx_T.step (pc' := 19) (st' := [_]) rfl rfl ?_
  refine jx_T.step (pc' := 20) (st' := [_, _]) rfl rfl ?_
  refine jx_T.alen rfl hsc.1 (Or.inr rfl) ?_
  refine jx_T.step (pc' := 23) (st' := [_, _, _]) rfl rfl ?_
  refine jx_T.step (pc' := 24) (st' := [_, _]) rfl rfl ?_
  refine cl.bc rfl (jx_br_gt _ _) (fun z => ?_) (fun _ => ?_)
  · have z := Int32.lt_iff_toInt_lt.mp z
    rw [lw_sub hL, nI_toInt (by omega)] at z
    omega
  · refine jx_T.step (pc' := 28) (st' := [_]) rfl rfl ?_
    refine jx_T.step (pc' := 29) (st' := [_, _]) rfl rfl ?_
    refine jx_T.iald rfl hsc.1 (Or.inr rfl) (rf_ix (by omega) (by omega)) ?_
    rw [nI_clamp (by omega)]
    refine jx_T.step (pc' := 32) (st' := [_, _]) rfl rfl ?_
    refine jx_T.step (pc' := 33) (st' := [_]) rfl rfl ?_
    exact t
theorem lw_ex (hsc : lw_sc L xs h) (hi : i < 4000) (hq : ¬ i + 6 ≤ L) (hL : L ≤ 3072) : jx_T 215 18 (lw_ls i) [] h (some (.int 1)) h := by
  refine jx_T.step (pc' := 19) (st' := [_]) rfl rfl ?_
  refine jx_T.step (pc' := 20) (st' := [_, _]) rfl rfl ?_
  refine jx_T.alen rfl hsc.1 (Or.inr rfl) ?_
  refine jx_T.step (pc' := 23) (st' := [_, _, _]) rfl rfl ?_
  refine jx_T.step (pc' := 24) (st' := [_, _]) rfl rfl ?_
  refine cl.bc rfl (jx_br_gt _ _) (fun _ => ?_) (fun z => ?_)
  · refine jx_T.step (pc' := 1356) (st' := [_]) rfl rfl ?_
    exact jx_T.ret rfl rfl
  · refine absurd (Int32.lt_iff_toInt_lt.mpr ?_) z
    rw [lw_sub hL, nI_toInt (by omega)]
    omega
theorem lw_nx (t : jx_T 215 18 (lw_ls (i + 6)) [] h v h2) : jx_T 215 1349 (lw_ls i) [] h v h2 := by
  refine jx_T.step (pc' := 1352) (ls' := [_, _, _, _]) (st' := []) rfl rfl ?_
  refine jx_T.step (pc' := 18) (st' := []) rfl rfl ?_
  show jx_T 215 18 [.ref 0, .ref 1, .ref 56, .int (nI i + nI 6)] [] _ _ _
  rw [nI_add]
  exact t
end
def lw_ops (P : Nat → jx_H → Prop) (L : Nat) (xs : Nat → Int32) : Prop := ∀ i, i + 6 ≤ L → lw_o P L xs 89 134 [.int (xs (i + 1)), .int (xs (i + 2)), .int (xs (i + 3))] true ∧ lw_o P L xs 93 138 [.int (xs (i + 1)), .int (xs (i + 2)), .int (xs (i + 3))] true ∧ lw_o P L xs 94 141 [.int (xs (i + 1))] true ∧ lw_o P L xs 95 142 [.int (xs (i + 1)), .int (xs (i + 2)), .int (xs (i + 3)), .int (xs (i + 4)), .int (xs (i + 5))] true ∧ lw_o P L xs 96 144 [.int (xs (i + 1)), .int (xs (i + 2)), .int (xs (i + 3)), .int (xs (i + 4))] true ∧ lw_o P L xs 100 147 [.int (xs (i + 1)), .int (rf_o (¬ (xs (i + 2)) = 0)), .int (xs (i + 3)), .int (xs (i + 4))] true ∧ lw_o P L xs 101 148 [.int (xs (i + 1)), .int (rf_o (¬ (xs (i + 2)) = 0)), .int (xs (i + 3)), .int (xs (i + 4)), .int (xs (i + 5))] true ∧ lw_o P L xs 102 149 [.int (rf_o (¬ (xs (i + 1)) = 0)), .int (xs (i + 2)), .int (xs (i + 3))] true ∧ lw_o P L xs 103 150 [.int (xs (i + 1))] true ∧ lw_o P L xs 104 151 [.int (xs (i + 1)), .int (xs (i + 2)), .int (rf_o (¬ (xs (i + 3)) = 0))] true ∧ lw_o P L xs 105 177 [.int (xs (i + 1)), .int (xs (i + 2)), .int (xs (i + 3)), .int (xs (i + 4))] true ∧ lw_o P L xs 106 180 [.int (xs (i + 1))] true ∧ lw_o P L xs 107 131 [] true ∧ lw_o P L xs 108 133 [] true ∧ lw_o P L xs 109 154 [.int (xs (i + 1)), .int (xs (i + 2))] true ∧ lw_o P L xs 110 143 [.int (xs (i + 1)), .int (xs (i + 2))] true ∧ lw_o P L xs 112 157 [.int (xs (i + 1))] false ∧ lw_o P L xs 114 168 [.int (xs (i + 1))] false ∧ lw_o P L xs 115 172 [.int (xs (i + 1)), .int (xs (i + 2))] true ∧ lw_o P L xs 116 170 [.int (xs (i + 1)), .int (xs (i + 2))] true ∧ lw_o P L xs 117 169 [.int (xs (i + 1))] true ∧ lw_o P L xs 118 171 [.int (xs (i + 1)), .int (xs (i + 2))] false ∧ lw_o P L xs 119 175 [.int (xs (i + 1)), .int (rf_o (¬ (xs (i + 2)) = 0)), .int (xs (i + 3))] false ∧ lw_o P L xs 120 181 [.int (xs (i + 1))] true ∧ lw_o P L xs 121 186 [.int (xs (i + 1))] false ∧ lw_o P L xs 122 187 [.int (xs (i + 1)), .int (xs (i + 2))] true ∧ lw_o P L xs 123 194 [] false ∧ lw_o P L xs 124 191 [.int (xs (i + 1)), .int (rf_o (¬ (xs (i + 2)) = 0))] true ∧ lw_o P L xs 126 188 [.int (xs (i + 1)), .int (xs (i + 2)), .int (xs (i + 3)), .int (xs (i + 4))] false ∧ lw_o P L xs 128 190 [.int (xs (i + 1)), .int (xs (i + 2)), .int (xs (i + 3))] false ∧ lw_o P L xs 111 204 [.int (xs (i + 1))] true
section
variable {L : Nat} {xs : Nat → Int32} {P : Nat → jx_H → Prop}
theorem lw_loop (hL : L ≤ 3072) (sc : ∀ k h, P k h → lw_sc L xs h) (mono : ∀ k h, P k h → P (k + 1) h) (ops : lw_ops P L xs) : ∀ d k h, k + d = 512 → P k h → ∃ hE k2, k2 ≤ 512 ∧ P k2 hE ∧ jx_T 215 18 (lw_ls (6 * k)) [] h (some (.int 1)) hE := by
  intro d
  induction d with
  | zero =>
    intro k h hk p
    exact ⟨h, k, by omega, p, lw_ex (sc k h p) (by omega) (by omega) hL⟩
  | succ d ih =>
    intro k h hk p
    by_cases q : 6 * k + 6 ≤ L
    · have s0 := sc k h p
      obtain ⟨o0, o1, o2, o3, o4, o5, o6, o7, o8, o9, o10, o11, o12, o13, o14, o15, o16, o17, o18, o19, o20, o21, o22, o23, o24, o25, o26, o27, o28, o29, o30⟩ := ops (6 * k) q
      obtain ⟨c, hcc, e⟩ := lw_31 (xs (6 * k))
      have hdd : ∀ (v : Option Value) (h2 : jx_H), jx_T 215 33 (lw_ls (6 * k)) [.int (nI c)] h v h2 → jx_T 215 18 (lw_ls (6 * k)) [] h v h2 := fun _ _ t => lw_hd s0 q hL (by rw [e]; exact t)
      match c, hcc, hdd with
      | 0, _, hdd =>
        obtain ⟨v, h2, h3, ty, t1, s2, t2, p3⟩ := o0 k h p
        obtain ⟨z, x, rfl⟩ | ⟨z, x, rfl⟩ := ty
        · obtain ⟨hE, k2, hk2, pE, tE⟩ := ih (k + 1) h3 (by omega) p3
          exact ⟨hE, k2, hk2, pE, hdd _ _ (jx_T.step (pc' := 172) (st' := []) rfl rfl (lw_c0 s0 q hL t1 s2 t2 (lw_nx tE)))⟩
        · exact absurd z (by decide)
      | 1, _, hdd =>
        obtain ⟨v, h2, h3, ty, t1, s2, t2, p3⟩ := o1 k h p
        obtain ⟨z, x, rfl⟩ | ⟨z, x, rfl⟩ := ty
        · obtain ⟨hE, k2, hk2, pE, tE⟩ := ih (k + 1) h3 (by omega) p3
          exact ⟨hE, k2, hk2, pE, hdd _ _ (jx_T.step (pc' := 215) (st' := []) rfl rfl (lw_c1 s0 q hL t1 s2 t2 (lw_nx tE)))⟩
        · exact absurd z (by decide)
      | 2, _, hdd =>
        obtain ⟨v, h2, h3, ty, t1, s2, t2, p3⟩ := o2 k h p
        obtain ⟨z, x, rfl⟩ | ⟨z, x, rfl⟩ := ty
        · obtain ⟨hE, k2, hk2, pE, tE⟩ := ih (k + 1) h3 (by omega) p3
          exact ⟨hE, k2, hk2, pE, hdd _ _ (jx_T.step (pc' := 258) (st' := []) rfl rfl (lw_c2 s0 q hL t1 s2 t2 (lw_nx tE)))⟩
        · exact absurd z (by decide)
      | 3, _, hdd =>
        obtain ⟨v, h2, h3, ty, t1, s2, t2, p3⟩ := o3 k h p
        obtain ⟨z, x, rfl⟩ | ⟨z, x, rfl⟩ := ty
        · obtain ⟨hE, k2, hk2, pE, tE⟩ := ih (k + 1) h3 (by omega) p3
          exact ⟨hE, k2, hk2, pE, hdd _ _ (jx_T.step (pc' := 281) (st' := []) rfl rfl (lw_c3 s0 q hL t1 s2 t2 (lw_nx tE)))⟩
        · exact absurd z (by decide)
      | 4, _, hdd =>
        obtain ⟨v, h2, h3, ty, t1, s2, t2, p3⟩ := o4 k h p
        obtain ⟨z, x, rfl⟩ | ⟨z, x, rfl⟩ := ty
        · obtain ⟨hE, k2, hk2, pE, tE⟩ := ih (k + 1) h3 (by omega) p3
          exact ⟨hE, k2, hk2, pE, hdd _ _ (jx_T.step (pc' := 344) (st' := []) rfl rfl (lw_c4 s0 q hL t1 s2 t2 (lw_nx tE)))⟩
        · exact absurd z (by decide)
      | 5, _, hdd =>
        obtain ⟨v, h2, h3, ty, t1, s2, t2, p3⟩ := o5 k h p
        obtain ⟨z, x, rfl⟩ | ⟨z, x, rfl⟩ := ty
        · obtain ⟨hE, k2, hk2, pE, tE⟩ := ih (k + 1) h3 (by omega) p3
          exact ⟨hE, k2, hk2, pE, hdd _ _ (jx_T.step (pc' := 397) (st' := []) rfl rfl (lw_c5 s0 q hL t1 s2 t2 (lw_nx tE)))⟩
        · exact absurd z (by decide)
      | 6, _, hdd =>
        obtain ⟨v, h2, h3, ty, t1, s2, t2, p3⟩ := o6 k h p
        obtain ⟨z, x, rfl⟩ | ⟨z, x, rfl⟩ := ty
        · obtain ⟨hE, k2, hk2, pE, tE⟩ := ih (k + 1) h3 (by omega) p3
          exact ⟨hE, k2, hk2, pE, hdd _ _ (jx_T.step (pc' := 466) (st' := []) rfl rfl (lw_c6 s0 q hL t1 s2 t2 (lw_nx tE)))⟩
        · exact absurd z (by decide)
      | 7, _, hdd =>
        obtain ⟨v, h2, h3, ty, t1, s2, t2, p3⟩ := o7 k h p
        obtain ⟨z, x, rfl⟩ | ⟨z, x, rfl⟩ := ty
        · obtain ⟨hE, k2, hk2, pE, tE⟩ := ih (k + 1) h3 (by omega) p3
          exact ⟨hE, k2, hk2, pE, hdd _ _ (jx_T.step (pc' := 545) (st' := []) rfl rfl (lw_c7 s0 q hL t1 s2 t2 (lw_nx tE)))⟩
        · exact absurd z (by decide)
      | 8, _, hdd =>
        obtain ⟨v, h2, h3, ty, t1, s2, t2, p3⟩ := o8 k h p
        obtain ⟨z, x, rfl⟩ | ⟨z, x, rfl⟩ := ty
        · obtain ⟨hE, k2, hk2, pE, tE⟩ := ih (k + 1) h3 (by omega) p3
          exact ⟨hE, k2, hk2, pE, hdd _ _ (jx_T.step (pc' := 604) (st' := []) rfl rfl (lw_c8 s0 q hL t1 s2 t2 (lw_nx tE)))⟩
        · exact absurd z (by decide)
      | 9, _, hdd =>
        obtain ⟨v, h2, h3, ty, t1, s2, t2, p3⟩ := o9 k h p
        obtain ⟨z, x, rfl⟩ | ⟨z, x, rfl⟩ := ty
        · obtain ⟨hE, k2, hk2, pE, tE⟩ := ih (k + 1) h3 (by omega) p3
          exact ⟨hE, k2, hk2, pE, hdd _ _ (jx_T.step (pc' := 627) (st' := []) rfl rfl (lw_c9 s0 q hL t1 s2 t2 (lw_nx tE)))⟩
        · exact absurd z (by decide)
      | 10, _, hdd =>
        obtain ⟨v, h2, h3, ty, t1, s2, t2, p3⟩ := o10 k h p
        obtain ⟨z, x, rfl⟩ | ⟨z, x, rfl⟩ := ty
        · obtain ⟨hE, k2, hk2, pE, tE⟩ := ih (k + 1) h3 (by omega) p3
          exact ⟨hE, k2, hk2, pE, hdd _ _ (jx_T.step (pc' := 686) (st' := []) rfl rfl (lw_c10 s0 q hL t1 s2 t2 (lw_nx tE)))⟩
        · exact absurd z (by decide)
      | 11, _, hdd =>
        obtain ⟨v, h2, h3, ty, t1, s2, t2, p3⟩ := o11 k h p
        obtain ⟨z, x, rfl⟩ | ⟨z, x, rfl⟩ := ty
        · obtain ⟨hE, k2, hk2, pE, tE⟩ := ih (k + 1) h3 (by omega) p3
          exact ⟨hE, k2, hk2, pE, hdd _ _ (jx_T.step (pc' := 739) (st' := []) rfl rfl (lw_c11 s0 q hL t1 s2 t2 (lw_nx tE)))⟩
        · exact absurd z (by decide)
      | 12, _, hdd =>
        obtain ⟨v, h2, h3, ty, t1, s2, t2, p3⟩ := o12 k h p
        obtain ⟨z, x, rfl⟩ | ⟨z, x, rfl⟩ := ty
        · obtain ⟨hE, k2, hk2, pE, tE⟩ := ih (k + 1) h3 (by omega) p3
          exact ⟨hE, k2, hk2, pE, hdd _ _ (jx_T.step (pc' := 762) (st' := []) rfl rfl (lw_c12 s0 q hL t1 s2 t2 (lw_nx tE)))⟩
        · exact absurd z (by decide)
      | 13, _, hdd =>
        obtain ⟨v, h2, h3, ty, t1, s2, t2, p3⟩ := o13 k h p
        obtain ⟨z, x, rfl⟩ | ⟨z, x, rfl⟩ := ty
        · obtain ⟨hE, k2, hk2, pE, tE⟩ := ih (k + 1) h3 (by omega) p3
          exact ⟨hE, k2, hk2, pE, hdd _ _ (jx_T.step (pc' := 775) (st' := []) rfl rfl (lw_c13 s0 q hL t1 s2 t2 (lw_nx tE)))⟩
        · exact absurd z (by decide)
      | 14, _, hdd =>
        obtain ⟨v, h2, h3, ty, t1, s2, t2, p3⟩ := o14 k h p
        obtain ⟨z, x, rfl⟩ | ⟨z, x, rfl⟩ := ty
        · obtain ⟨hE, k2, hk2, pE, tE⟩ := ih (k + 1) h3 (by omega) p3
          exact ⟨hE, k2, hk2, pE, hdd _ _ (jx_T.step (pc' := 788) (st' := []) rfl rfl (lw_c14 s0 q hL t1 s2 t2 (lw_nx tE)))⟩
        · exact absurd z (by decide)
      | 15, _, hdd =>
        obtain ⟨v, h2, h3, ty, t1, s2, t2, p3⟩ := o15 k h p
        obtain ⟨z, x, rfl⟩ | ⟨z, x, rfl⟩ := ty
        · obtain ⟨hE, k2, hk2, pE, tE⟩ := ih (k + 1) h3 (by omega) p3
          exact ⟨hE, k2, hk2, pE, hdd _ _ (jx_T.step (pc' := 821) (st' := []) rfl rfl (lw_c15 s0 q hL t1 s2 t2 (lw_nx tE)))⟩
        · exact absurd z (by decide)
      | 16, _, hdd =>
        obtain ⟨v, h2, h3, ty, t1, s2, t2, p3⟩ := o16 k h p
        obtain ⟨z, x, rfl⟩ | ⟨z, x, rfl⟩ := ty
        · exact absurd z (by decide)
        · obtain ⟨hE, k2, hk2, pE, tE⟩ := ih (k + 1) h3 (by omega) p3
          exact ⟨hE, k2, hk2, pE, hdd _ _ (jx_T.step (pc' := 854) (st' := []) rfl rfl (lw_c16 s0 q hL t1 s2 t2 (lw_nx tE)))⟩
      | 17, _, hdd =>
        obtain ⟨v, h2, h3, ty, t1, s2, t2, p3⟩ := o17 k h p
        obtain ⟨z, x, rfl⟩ | ⟨z, x, rfl⟩ := ty
        · exact absurd z (by decide)
        · obtain ⟨hE, k2, hk2, pE, tE⟩ := ih (k + 1) h3 (by omega) p3
          exact ⟨hE, k2, hk2, pE, hdd _ _ (jx_T.step (pc' := 878) (st' := []) rfl rfl (lw_c17 s0 q hL t1 s2 t2 (lw_nx tE)))⟩
      | 18, _, hdd =>
        obtain ⟨v, h2, h3, ty, t1, s2, t2, p3⟩ := o18 k h p
        obtain ⟨z, x, rfl⟩ | ⟨z, x, rfl⟩ := ty
        · obtain ⟨hE, k2, hk2, pE, tE⟩ := ih (k + 1) h3 (by omega) p3
          exact ⟨hE, k2, hk2, pE, hdd _ _ (jx_T.step (pc' := 902) (st' := []) rfl rfl (lw_c18 s0 q hL t1 s2 t2 (lw_nx tE)))⟩
        · exact absurd z (by decide)
      | 19, _, hdd =>
        obtain ⟨v, h2, h3, ty, t1, s2, t2, p3⟩ := o19 k h p
        obtain ⟨z, x, rfl⟩ | ⟨z, x, rfl⟩ := ty
        · obtain ⟨hE, k2, hk2, pE, tE⟩ := ih (k + 1) h3 (by omega) p3
          exact ⟨hE, k2, hk2, pE, hdd _ _ (jx_T.step (pc' := 935) (st' := []) rfl rfl (lw_c19 s0 q hL t1 s2 t2 (lw_nx tE)))⟩
        · exact absurd z (by decide)
      | 20, _, hdd =>
        obtain ⟨v, h2, h3, ty, t1, s2, t2, p3⟩ := o20 k h p
        obtain ⟨z, x, rfl⟩ | ⟨z, x, rfl⟩ := ty
        · obtain ⟨hE, k2, hk2, pE, tE⟩ := ih (k + 1) h3 (by omega) p3
          exact ⟨hE, k2, hk2, pE, hdd _ _ (jx_T.step (pc' := 968) (st' := []) rfl rfl (lw_c20 s0 q hL t1 s2 t2 (lw_nx tE)))⟩
        · exact absurd z (by decide)
      | 21, _, hdd =>
        obtain ⟨v, h2, h3, ty, t1, s2, t2, p3⟩ := o21 k h p
        obtain ⟨z, x, rfl⟩ | ⟨z, x, rfl⟩ := ty
        · exact absurd z (by decide)
        · obtain ⟨hE, k2, hk2, pE, tE⟩ := ih (k + 1) h3 (by omega) p3
          exact ⟨hE, k2, hk2, pE, hdd _ _ (jx_T.step (pc' := 991) (st' := []) rfl rfl (lw_c21 s0 q hL t1 s2 t2 (lw_nx tE)))⟩
      | 22, _, hdd =>
        obtain ⟨v, h2, h3, ty, t1, s2, t2, p3⟩ := o22 k h p
        obtain ⟨z, x, rfl⟩ | ⟨z, x, rfl⟩ := ty
        · exact absurd z (by decide)
        · obtain ⟨hE, k2, hk2, pE, tE⟩ := ih (k + 1) h3 (by omega) p3
          exact ⟨hE, k2, hk2, pE, hdd _ _ (jx_T.step (pc' := 1025) (st' := []) rfl rfl (lw_c22 s0 q hL t1 s2 t2 (lw_nx tE)))⟩
      | 23, _, hdd =>
        obtain ⟨v, h2, h3, ty, t1, s2, t2, p3⟩ := o23 k h p
        obtain ⟨z, x, rfl⟩ | ⟨z, x, rfl⟩ := ty
        · obtain ⟨hE, k2, hk2, pE, tE⟩ := ih (k + 1) h3 (by omega) p3
          exact ⟨hE, k2, hk2, pE, hdd _ _ (jx_T.step (pc' := 1085) (st' := []) rfl rfl (lw_c23 s0 q hL t1 s2 t2 (lw_nx tE)))⟩
        · exact absurd z (by decide)
      | 24, _, hdd =>
        obtain ⟨v, h2, h3, ty, t1, s2, t2, p3⟩ := o24 k h p
        obtain ⟨z, x, rfl⟩ | ⟨z, x, rfl⟩ := ty
        · exact absurd z (by decide)
        · obtain ⟨hE, k2, hk2, pE, tE⟩ := ih (k + 1) h3 (by omega) p3
          exact ⟨hE, k2, hk2, pE, hdd _ _ (jx_T.step (pc' := 1108) (st' := []) rfl rfl (lw_c24 s0 q hL t1 s2 t2 (lw_nx tE)))⟩
      | 25, _, hdd =>
        obtain ⟨v, h2, h3, ty, t1, s2, t2, p3⟩ := o25 k h p
        obtain ⟨z, x, rfl⟩ | ⟨z, x, rfl⟩ := ty
        · obtain ⟨hE, k2, hk2, pE, tE⟩ := ih (k + 1) h3 (by omega) p3
          exact ⟨hE, k2, hk2, pE, hdd _ _ (jx_T.step (pc' := 1132) (st' := []) rfl rfl (lw_c25 s0 q hL t1 s2 t2 (lw_nx tE)))⟩
        · exact absurd z (by decide)
      | 26, _, hdd =>
        obtain ⟨v, h2, h3, ty, t1, s2, t2, p3⟩ := o26 k h p
        obtain ⟨z, x, rfl⟩ | ⟨z, x, rfl⟩ := ty
        · exact absurd z (by decide)
        · obtain ⟨hE, k2, hk2, pE, tE⟩ := ih (k + 1) h3 (by omega) p3
          exact ⟨hE, k2, hk2, pE, hdd _ _ (jx_T.step (pc' := 1165) (st' := []) rfl rfl (lw_c26 s0 q hL t1 s2 t2 (lw_nx tE)))⟩
      | 27, _, hdd =>
        obtain ⟨v, h2, h3, ty, t1, s2, t2, p3⟩ := o27 k h p
        obtain ⟨z, x, rfl⟩ | ⟨z, x, rfl⟩ := ty
        · obtain ⟨hE, k2, hk2, pE, tE⟩ := ih (k + 1) h3 (by omega) p3
          exact ⟨hE, k2, hk2, pE, hdd _ _ (jx_T.step (pc' := 1179) (st' := []) rfl rfl (lw_c27 s0 q hL t1 s2 t2 (lw_nx tE)))⟩
        · exact absurd z (by decide)
      | 28, _, hdd =>
        obtain ⟨v, h2, h3, ty, t1, s2, t2, p3⟩ := o28 k h p
        obtain ⟨z, x, rfl⟩ | ⟨z, x, rfl⟩ := ty
        · exact absurd z (by decide)
        · obtain ⟨hE, k2, hk2, pE, tE⟩ := ih (k + 1) h3 (by omega) p3
          exact ⟨hE, k2, hk2, pE, hdd _ _ (jx_T.step (pc' := 1228) (st' := []) rfl rfl (lw_c28 s0 q hL t1 s2 t2 (lw_nx tE)))⟩
      | 29, _, hdd =>
        obtain ⟨v, h2, h3, ty, t1, s2, t2, p3⟩ := o29 k h p
        obtain ⟨z, x, rfl⟩ | ⟨z, x, rfl⟩ := ty
        · exact absurd z (by decide)
        · obtain ⟨hE, k2, hk2, pE, tE⟩ := ih (k + 1) h3 (by omega) p3
          exact ⟨hE, k2, hk2, pE, hdd _ _ (jx_T.step (pc' := 1282) (st' := []) rfl rfl (lw_c29 s0 q hL t1 s2 t2 (lw_nx tE)))⟩
      | 30, _, hdd =>
        obtain ⟨v, h2, h3, ty, t1, s2, t2, p3⟩ := o30 k h p
        obtain ⟨z, x, rfl⟩ | ⟨z, x, rfl⟩ := ty
        · obtain ⟨hE, k2, hk2, pE, tE⟩ := ih (k + 1) h3 (by omega) p3
          exact ⟨hE, k2, hk2, pE, hdd _ _ (jx_T.step (pc' := 1326) (st' := []) rfl rfl (lw_c30 s0 q hL t1 s2 t2 (lw_nx tE)))⟩
        · exact absurd z (by decide)
      | 31, _, hdd =>
        obtain ⟨hE, k2, hk2, pE, tE⟩ := ih (k + 1) h (by omega) (mono k h p)
        exact ⟨hE, k2, hk2, pE, hdd _ _ (jx_T.step (pc' := 1349) (st' := []) rfl rfl (lw_nx tE))⟩
      | c + 32, hcc, _ => exact absurd hcc (by omega)
    · exact ⟨h, k, by omega, p, lw_ex (sc k h p) (by omega) q hL⟩
/-- the law holds where some P stands at the beginning, is kept by every call and leaves room -/
theorem lw_law (hL : L ≤ 3072) (sc : ∀ k h, P k h → lw_sc L xs h) (mono : ∀ k h, P k h → P (k + 1) h) (ops : lw_ops P L xs) (room : ∀ k h, k ≤ 512 → P k h → h.1 ≤ 600001 ∧ h.2.1 ≤ 7302250) (start : ∀ h, rf_At 56 k1_R h → h.1 = 78 → h.2.1 = k1_s + kz129 → (∀ a, (a < 56 ∨ 78 ≤ a) → h.2.2 a = (hc k1_W (k1_g L xs) 56 k1_s).2.2 a) → P 0 h) : jx_Law L xs := by
  obtain ⟨h0, t0, a0, n0, s0, f0⟩ := ki_129 (hc k1_W (k1_g L xs) 56 k1_s)
  obtain ⟨hE, k2, hk2, pE, n, tE⟩ := lw_loop hL sc mono ops 512 0 h0 rfl (start h0 a0 n0 s0 f0)
  have t : jx_T 215 0 (jx_ent 215 [.ref 0]) [] (jx_h0 L xs) (some (.int 1)) hE := by
    show jx_T 215 0 [.ref 0, .retAddr 0, .retAddr 0, .retAddr 0] [] _ _ _
    refine jx_T.step (h1 := jx_new (jx_h0 L xs) (jx_dfl.getD 11 []).length (.inr (11, jx_dfl.getD 11 []))) (pc' := 3) (st' := [.ref 1]) rfl rfl ?_
    refine jx_T.step (pc' := 4) (st' := [.ref 1, .ref 1]) rfl rfl ?_
    have e : jx_new (jx_h0 L xs) (jx_dfl.getD 11 []).length (.inr (11, jx_dfl.getD 11 [])) = ha (jx_h0 L xs) 10 (([] : List jx_E) ++ [.inr (11, jx_dfl.getD 11 [])]) := by
      have := ha_new (jx_h0 L xs) 0 [] 10 (.inr (11, jx_dfl.getD 11 []))
      rw [ha_nil] at this
      exact this
    rw [e]
    refine jx_T.spec rfl (by decide) rfl (Nat.le_of_ble_eq_true rfl) rfl (Nat.le_of_ble_eq_true rfl) (ki_88 L xs) ?_
    refine jx_T.step (pc' := 8) (ls' := [_, _, _, _]) (st' := []) rfl rfl ?_
    refine jx_T.step (h1 := jx_new (hc k1_W (k1_g L xs) 56 k1_s) (jx_dfl.getD 12 []).length (.inr (12, jx_dfl.getD 12 []))) (pc' := 11) (st' := [.ref 56]) rfl rfl ?_
    refine jx_T.step (pc' := 12) (st' := [.ref 56, .ref 56]) rfl rfl ?_
    refine jx_T.spec rfl (by decide) rfl (Nat.le_of_ble_eq_true rfl) rfl (Nat.le_of_ble_eq_true rfl) t0 ?_
    refine jx_T.step (pc' := 16) (ls' := [_, _, _, _]) (st' := []) rfl rfl ?_
    refine jx_T.step (pc' := 17) (st' := [_]) rfl rfl ?_
    refine jx_T.step (pc' := 18) (ls' := [_, _, _, _]) (st' := []) rfl rfl ?_
    exact ⟨n, tE⟩
  obtain ⟨m, tm⟩ := t
  exact ⟨m, hE, tm, room k2 hE hk2 pE⟩
end
