/-! what stands at a level, both ways -/
section
variable {T : tv} {N : Nat → Int32} {i : Nat}
theorem tl_1 (ok : tl_ok N i) (h : N (2 + 24 * i) < 3) : sv_n (tl_S N i) = 0 ↔ N (2 + 24 * i) = 1 := by
  show rf_sp N i = 0 ↔ _
  obtain ⟨-, -, -, c⟩ := ok
  rcases c with ⟨a, b, -⟩ | ⟨⟨a, -⟩ | ⟨a, -⟩, -⟩ | ⟨a, b, -⟩
  · rw [a, b]
    exact ⟨fun _ => rfl, fun _ => rfl⟩
  · rw [a] at h
    exact absurd h (by decide)
  · rw [a] at h
    exact absurd h (by decide)
  · constructor
    · intro q
      omega
    · intro q
      rcases a with a | a <;> rw [a] at q <;> exact absurd q (by decide)
theorem tl_top0 (ok : tl_ok N i) (h : rf_sp N i = 0) : sv_top (tl_S N i) (N 1) = rf_lvl N i (N (2 + 24 * i + 3)) := by
  have := tl_lv ok 0 (by omega)
  rw [h, ite_self] at this
  exact this
theorem tl_st {w lv : Int32} (t : tls T N) {L : List Int32} {k : Nat} (hl : L.getD k 0 = lv) : ∀ i, i ≤ T.2.1 → cs_s T w L k i = rf_st N w lv i
  | 0, _ => rfl
  | i + 1, hi => by
    have ih := tl_st (w := w) t hl i (by omega)
    obtain ⟨e, ok⟩ := t.2.1 i (by omega)
    unfold cs_s rf_st
    rw [ih, e, ← t.1.2.2.1, hl]
    by_cases z : rf_isb N i w = true
    · have k3 : N (2 + 24 * i) < 3 := by
        unfold rf_isb at z
        rw [decide_eq_true_iff] at z
        exact z.1
      have zs := (tl_is ok w).mpr z
      by_cases y : N (2 + 24 * i) = 1
      · have n0 : rf_sp N i = 0 := (tl_1 ok k3).mpr y
        by_cases x : rf_lvl N i (N (2 + 24 * i + 3)) = lv
        · rw [if_pos ⟨zs, n0, (tl_top0 ok n0).trans x⟩, if_pos ⟨z, y, x⟩]
          have ea : sv_am (tl_S N i) = N (2 + 24 * i + 5) := by
            rw [tl_am ok, if_pos k3, if_pos y]
          rw [ea]
          unfold sv_sg
          have e0 : sv_hot (tl_S N i) = N (2 + 24 * i + 1) := rfl
          rw [e0]
          rcases ok.1 with q | q
          · rw [q, if_pos rfl, if_neg (by decide), Int32.neg_mul, Int32.one_mul]
          · rw [q, if_neg (by decide), if_pos rfl, Int32.one_mul]
        · rw [if_neg (fun q => x ((tl_top0 ok n0).symm.trans q.2.2)), if_neg (fun q => x q.2.2)]
      · rw [if_neg (fun q => y ((tl_1 ok k3).mp q.2.1)), if_neg (fun q => y q.2.1)]
    · rw [if_neg (fun q => z ((tl_is ok w).mp q.1)), if_neg (fun q => z q.1)]
end
