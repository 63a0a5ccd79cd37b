/-! levels: one sorted list, whatever the order of coming -/
def lv_srt (l : List Int32) : Prop := l.Pairwise (fun a b => b < a)
theorem lv_i (a b : Int32) : a < b ↔ a.toInt < b.toInt := Int32.lt_iff_toInt_lt
theorem lv_ins_mem {v x : Int32} : ∀ {l : List Int32}, x ∈ lv_ins v l ↔ x = v ∨ x ∈ l
  | [] => by
    unfold lv_ins
    rw [List.mem_singleton]
    exact ⟨Or.inl, fun q => q.elim id (fun q => absurd q List.not_mem_nil)⟩
  | a :: l => by
    unfold lv_ins
    by_cases z : v < a
    · rw [if_pos z, List.mem_cons, List.mem_cons, lv_ins_mem]
      exact ⟨fun q => q.elim (fun q => Or.inr (Or.inl q)) (fun q => q.elim Or.inl (fun q => Or.inr (Or.inr q))), fun q => q.elim (fun q => Or.inr (Or.inl q)) (fun q => q.elim Or.inl (fun q => Or.inr (Or.inr q)))⟩
    · rw [if_neg z]
      by_cases y : a = v
      · rw [if_pos y, List.mem_cons, y]
        exact ⟨fun q => Or.inr q, fun q => q.elim Or.inl id⟩
      · rw [if_neg y, List.mem_cons]
theorem lv_ins_srt {v : Int32} : ∀ {l : List Int32}, lv_srt l → lv_srt (lv_ins v l)
  | [], _ => List.pairwise_singleton _ _
  | a :: l, h => by
    obtain ⟨h1, h2⟩ := List.pairwise_cons.mp h
    unfold lv_ins
    by_cases z : v < a
    · rw [if_pos z]
      refine List.pairwise_cons.mpr ⟨fun b hb => ?_, lv_ins_srt h2⟩
      rcases lv_ins_mem.mp hb with q | q
      · rw [q]
        exact z
      · exact h1 b q
    · rw [if_neg z]
      by_cases y : a = v
      · rw [if_pos y]
        exact h
      · rw [if_neg y]
        have z2 : a < v := by
          rw [lv_i] at z ⊢
          have : ¬ a.toInt = v.toInt := fun q => y (Int32.toInt_inj.mp q)
          omega
        refine List.pairwise_cons.mpr ⟨fun b hb => ?_, h⟩
        rcases List.mem_cons.mp hb with q | q
        · rw [q]
          exact z2
        · have := h1 b q
          rw [lv_i] at this z2 ⊢
          omega
theorem lv_ext : ∀ {l m : List Int32}, lv_srt l → lv_srt m → (∀ x, x ∈ l ↔ x ∈ m) → l = m
  | [], [], _, _, _ => rfl
  | [], b :: m, _, _, h => absurd ((h b).mpr List.mem_cons_self) List.not_mem_nil
  | a :: l, [], _, _, h => absurd ((h a).mp List.mem_cons_self) List.not_mem_nil
  | a :: l, b :: m, h1, h2, h => by
    obtain ⟨a1, a2⟩ := List.pairwise_cons.mp h1
    obtain ⟨b1, b2⟩ := List.pairwise_cons.mp h2
    have e : a = b := by
      rcases List.mem_cons.mp ((h a).mp List.mem_cons_self) with q | q
      · exact q
      · rcases List.mem_cons.mp ((h b).mpr List.mem_cons_self) with r | r
        · exact r.symm
        · have q1 := b1 a q
          have q2 := a1 b r
          rw [lv_i] at q1 q2
          omega
    subst e
    rw [lv_ext a2 b2 (fun x => ⟨fun q => ?_, fun q => ?_⟩)]
    · rcases List.mem_cons.mp ((h x).mp (List.mem_cons_of_mem _ q)) with r | r
      · have := a1 x q
        rw [r, lv_i] at this
        omega
      · exact r
    · rcases List.mem_cons.mp ((h x).mpr (List.mem_cons_of_mem _ q)) with r | r
      · have := b1 x q
        rw [r, lv_i] at this
        omega
      · exact r
theorem lv_all_srt : ∀ {vs l : List Int32}, lv_srt l → lv_srt (lv_all l vs)
  | [], _, h => h
  | v :: vs, l, h => lv_all_srt (vs := vs) (lv_ins_srt (v := v) h)
theorem lv_all_mem {x : Int32} : ∀ {vs l : List Int32}, x ∈ lv_all l vs ↔ x ∈ l ∨ x ∈ vs
  | [], l => ⟨Or.inl, fun q => q.elim id (fun q => absurd q List.not_mem_nil)⟩
  | v :: vs, l => by
    show x ∈ lv_all (lv_ins v l) vs ↔ _
    rw [lv_all_mem, lv_ins_mem, List.mem_cons]
    exact ⟨fun q => q.elim (fun q => q.elim (fun q => Or.inr (Or.inl q)) Or.inl) (fun q => Or.inr (Or.inr q)), fun q => q.elim (fun q => Or.inl (Or.inr q)) (fun q => q.elim (fun q => Or.inl (Or.inl q)) Or.inr)⟩
section
variable {N : Nat → Int32} {i : Nat}
theorem sn_far_back {f : Nat → Int32} {n : Nat} {u : Nat → Int32} (hu : ∀ j, j < n → u j = f (n - 1 - j)) {t : Int32} : ∀ j, j ≤ n → t + sn_far f n - sn_far u j = t + sn_far f (n - j)
  | 0, _ => by
    show t + sn_far f n - 0 = _
    rw [Int32.sub_zero, Nat.sub_zero]
  | j + 1, hj => by
    have ih := sn_far_back hu (t := t) j (by omega)
    have e : sn_far f (n - j) = sn_far f (n - (j + 1)) + f (n - (j + 1)) := by
      rw [show n - j = n - (j + 1) + 1 by omega]
      rfl
    show t + sn_far f n - (sn_far u j + u j) = _
    have ih2 : t + sn_far f n + -sn_far u j = t + sn_far f (n - j) := by
      rw [← Int32.sub_eq_add_neg]
      exact ih
    rw [Int32.sub_eq_add_neg, Int32.neg_add, Int32.sub_eq_add_neg, ← Int32.add_assoc, ih2, e, hu j (by omega), show n - 1 - j = n - (j + 1) by omega, ← Int32.sub_eq_add_neg, ← Int32.add_assoc, Int32.add_sub_cancel]
/-- the works' levels of a stream are the reference's, from the hotter end -/
theorem tl_lv (ok : tl_ok N i) : ∀ j, j ≤ rf_sp N i → sv_lv (tl_S N i) (N 1) j = rf_lvl N i (rf_end N i (if N (2 + 24 * i + 1) = 1 then j else rf_sp N i - j)) := by
  obtain ⟨h01, -, ⟨-, h8⟩, -⟩ := ok
  have far : ∀ j, j ≤ rf_sp N i → sv_lv (tl_S N i) (N 1) j = sv_top (tl_S N i) (N 1) - sn_far (sv_fd (tl_S N i)) j := by
    intro j
    induction j with
    | zero =>
      intro _
      show sv_top (tl_S N i) (N 1) = _ - 0
      rw [Int32.sub_zero]
    | succ j ih =>
      intro hj
      show sv_lv (tl_S N i) (N 1) j - sv_fd (tl_S N i) j = _ - (sn_far (sv_fd (tl_S N i)) j + sv_fd (tl_S N i) j)
      rw [ih (by omega), Int32.sub_eq_add_neg, Int32.sub_eq_add_neg, Int32.sub_eq_add_neg, Int32.neg_add, Int32.sub_eq_add_neg, Int32.add_assoc]
  intro j hj
  rw [far j hj]
  have etop : sv_top (tl_S N i) (N 1) = if N (2 + 24 * i + 1) = 0 then N (2 + 24 * i + 3) + sn_far (tl_d N i) (rf_sp N i) else N (2 + 24 * i + 3) - N 1 := by
    show (if N (2 + 24 * i + 1) = 0 then (if N (2 + 24 * i + 1) = 0 then _ else _) else (if N (2 + 24 * i + 1) = 0 then _ else _) - N 1) = _
    by_cases z : N (2 + 24 * i + 1) = 0
    · rw [if_pos z, if_pos z, if_pos z]
    · rw [if_neg z, if_neg z, if_neg z]
  have efd : ∀ q, sv_fd (tl_S N i) q = sn_dn (N (2 + 24 * i + 1)) (rf_sp N i) (tl_d N i) (rf_sp N i) q := fun _ => rfl
  rw [etop]
  rcases h01 with z | z
  · have z1 : ¬ N (2 + 24 * i + 1) = 1 := by rw [z]; decide
    rw [if_pos z, if_neg z1]
    unfold rf_lvl
    rw [if_neg z1, tl_end h8 _ (by omega), if_neg z1]
    refine sn_far_back (fun q hq => ?_) j hj
    rw [efd]
    unfold sn_dn
    rw [if_pos z, if_pos (by omega)]
  · have z1 : ¬ N (2 + 24 * i + 1) = 0 := by rw [z]; decide
    rw [if_neg z1, if_pos z]
    unfold rf_lvl
    rw [if_pos z, tl_end h8 _ hj, if_pos z]
    have e : sn_far (sv_fd (tl_S N i)) j = sn_far (tl_d N i) j := sn_far_c j (fun q hq => by
      rw [efd]
      unfold sn_dn
      rw [if_neg z1, if_pos (by omega)])
    rw [e, Int32.sub_eq_add_neg, Int32.sub_eq_add_neg, Int32.sub_eq_add_neg, Int32.sub_eq_add_neg, Int32.add_assoc, Int32.add_assoc, Int32.add_comm (-N 1)]
theorem tl_ls_mem (ok : tl_ok N i) (x : Int32) : x ∈ sv_ls (tl_S N i) (N 1) (sv_n (tl_S N i) + 1) ↔ x ∈ lv_s N i (rf_sp N i + 1) := by
  have en : sv_n (tl_S N i) = rf_sp N i := rfl
  unfold sv_ls lv_s
  rw [en, List.mem_map, List.mem_map]
  constructor
  · rintro ⟨j, hj, rfl⟩
    have hj2 : j ≤ rf_sp N i := by
      have := List.mem_range'_1.mp hj
      omega
    refine ⟨if N (2 + 24 * i + 1) = 1 then j else rf_sp N i - j, List.mem_range'_1.mpr ?_, (tl_lv ok j hj2).symm⟩
    split <;> omega
  · rintro ⟨j, hj, rfl⟩
    have hj2 : j ≤ rf_sp N i := by
      have := List.mem_range'_1.mp hj
      omega
    refine ⟨if N (2 + 24 * i + 1) = 1 then j else rf_sp N i - j, List.mem_range'_1.mpr ?_, ?_⟩
    · split <;> omega
    · rw [tl_lv ok _ (by split <;> omega)]
      by_cases z : N (2 + 24 * i + 1) = 1
      · rw [if_pos z, if_pos z]
      · rw [if_neg z, if_neg z, show rf_sp N i - (rf_sp N i - j) = j by omega]
end
