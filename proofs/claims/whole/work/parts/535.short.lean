/-! least ways are short -/
section
variable {adj : sp_A} {n s : Nat} {p : Nat → Int}
theorem sp_lev (ok : sp_ok adj n s p) : ∀ (k v : Nat) (y : Int), sp_D adj s v y → sp_W adj s k v y → (∀ i, i < k → ¬ sp_W adj s i v y) → ∃ l : List Nat, l.length = k + 1 ∧ l.Nodup ∧ ∀ w, w ∈ l → w < n ∧ ∃ j z, j ≤ k ∧ sp_D adj s w z ∧ sp_W adj s j w z
  | 0, v, y, hd, hw, _ => ⟨[v], rfl, List.nodup_cons.mpr ⟨by simp, List.nodup_nil⟩, fun w hw2 => by
    obtain rfl := List.mem_singleton.mp hw2
    exact ⟨(sp_W_lt ok 0 w y hw).1, 0, y, Nat.le_refl 0, hd, hw⟩⟩
  | k + 1, v, y, hd, hw, hm => by
    have hw0 := hw
    obtain ⟨u, x, c, h1, h2, rfl⟩ := hw
    have du : sp_D adj s u x := ⟨⟨k, h1⟩, fun j z hz => by
      have := hd.2 (j + 1) (z + c) ⟨u, z, c, hz, h2, rfl⟩
      omega⟩
    obtain ⟨l, g1, g2, g3⟩ := sp_lev ok k u x du h1 (fun i hi q => hm (i + 1) (by omega) ⟨u, x, c, q, h2, rfl⟩)
    refine ⟨v :: l, by rw [List.length_cons, g1], List.nodup_cons.mpr ⟨fun q => ?_, g2⟩, fun w hw2 => ?_⟩
    · obtain ⟨-, j, z, h3, h4, h5⟩ := g3 v q
      rw [sp_D_un hd h4] at hm
      exact hm j (by omega) h5
    · rcases List.mem_cons.mp hw2 with q | q
      · subst q
        exact ⟨(sp_W_lt ok (k + 1) w _ hw0).1, k + 1, _, Nat.le_refl _, hd, hw0⟩
      · obtain ⟨h3, j, z, h4, h5⟩ := g3 w q
        exact ⟨h3, j, z, by omega, h5⟩
theorem sp_short (ok : sp_ok adj n s p) {v : Nat} {y : Int} (hd : sp_D adj s v y) : ∃ k, k < n ∧ sp_W adj s k v y := by
  obtain ⟨k, hk⟩ := hd.1
  have key : ∀ m k, k ≤ m → sp_W adj s k v y → ∃ k, k < n ∧ sp_W adj s k v y := by
    intro m
    induction m with
    | zero =>
      intro k hk hw
      obtain rfl : k = 0 := by omega
      exact ⟨0, by have := ok.1; omega, hw⟩
    | succ m ih =>
      intro k hk hw
      by_cases q : ∃ i, i < k ∧ sp_W adj s i v y
      · obtain ⟨i, q1, q2⟩ := q
        exact ih i (by omega) q2
      · obtain ⟨l, g1, g2, g3⟩ := sp_lev ok k v y hd hw (fun i hi w => q ⟨i, hi, w⟩)
        have := sp_len n l g2 (fun w hw => (g3 w hw).1)
        exact ⟨k, by omega, hw⟩
  exact key k k (Nat.le_refl k) hk
theorem sp_W_ge {C : Nat} (hc : ∀ a b c, (b, c) ∈ adj a → -(C : Int) ≤ c) : ∀ k v x, sp_W adj s k v x → -((k * C : Nat) : Int) ≤ x
  | 0, v, x, h => by
    obtain ⟨-, rfl⟩ := h
    simp
  | k + 1, v, x, h => by
    obtain ⟨u, y, c, h1, h2, rfl⟩ := h
    have g1 := sp_W_ge hc k u y h1
    have g2 := hc u v c h2
    rw [Nat.succ_mul]
    omega
/-- a label is no less than so many times the dearest arc -/
theorem sp_low (ok : sp_ok adj n s p) {C : Nat} (hc : ∀ a b c, (b, c) ∈ adj a → -(C : Int) ≤ c) {k v : Nat} {x : Int} (h : sp_W adj s k v x) : -((n * C : Nat) : Int) ≤ x := by
  obtain ⟨y, hy⟩ := sp_D_ex ok h
  obtain ⟨j, hj, hw⟩ := sp_short ok hy
  have h1 := sp_W_ge hc j v y hw
  have h2 := hy.2 k x h
  have h3 : j * C ≤ n * C := Nat.mul_le_mul_right C (by omega)
  omega
end
