/-! the reference's network: sums over its arcs, a flow from a plan -/
def hotB (N : Nat → Int32) (i : Nat) : Bool := decide (N (2 + 24 * i + 1) = 1)
theorem hotB_t {N : Nat → Int32} {i : Nat} : hotB N i = true ↔ N (2 + 24 * i + 1) = 1 := decide_eq_true_iff
theorem hotB_f {N : Nat → Int32} {i : Nat} : ¬ hotB N i = true ↔ ¬ N (2 + 24 * i + 1) = 1 := not_congr hotB_t
section
variable {N : Nat → Int32} {L : List Int32} {M : Nat}
theorem ls_gx (ψ : gA → Int) (s p : Nat) : ∀ k, ls ψ (gr_x N s p k) = fl_sum (fun a => if gr_may N a s then ψ (240 * a + p, 240 * s + p, 1125899906842624, 0) else 0) k
  | 0 => rfl
  | k + 1 => by
    have ih := ls_gx ψ s p k
    unfold gr_x
    show _ = fl_sum (fun a => if gr_may N a s then ψ (240 * a + p, 240 * s + p, 1125899906842624, 0) else 0) k + (if gr_may N k s then ψ (240 * k + p, 240 * s + p, 1125899906842624, 0) else 0)
    by_cases z : gr_may N k s
    · rw [if_pos z, if_pos z, ls_app, ls_1, ih]
    · rw [if_neg z, if_neg z, ih, Int.add_zero]
theorem ls_gs (ψ : gA → Int) (s : Nat) : ∀ q, ls ψ (gr_s N L M s q) = fl_sum (fun p => ls ψ (gr_p N L M s p)) q
  | 0 => rfl
  | q + 1 => by
    show ls ψ (gr_s N L M s q ++ gr_p N L M s q) = _
    rw [ls_app, ls_gs ψ s q]
    rfl
theorem ls_gg (ψ : gA → Int) : ∀ k, ls ψ (gr_g N L M k) = fl_sum (fun s => fl_sum (fun p => ls ψ (gr_p N L M s p)) (2 * L.length)) k
  | 0 => rfl
  | k + 1 => by
    show ls ψ (gr_g N L M k ++ gr_s N L M k (2 * L.length)) = _
    rw [ls_app, ls_gg ψ k, ls_gs]
    rfl
theorem gs_mem {s : Nat} {a : gA} : ∀ q, a ∈ gr_s N L M s q ↔ ∃ p, p < q ∧ a ∈ gr_p N L M s p
  | 0 => ⟨fun h => absurd h List.not_mem_nil, fun ⟨_, h, _⟩ => absurd h (by omega)⟩
  | q + 1 => by
    show a ∈ gr_s N L M s q ++ gr_p N L M s q ↔ _
    rw [List.mem_append, gs_mem q]
    constructor
    · rintro (⟨p, h1, h2⟩ | h)
      · exact ⟨p, by omega, h2⟩
      · exact ⟨q, by omega, h⟩
    · rintro ⟨p, h1, h2⟩
      by_cases z : p = q
      · rw [z] at h2
        exact Or.inr h2
      · exact Or.inl ⟨p, by omega, h2⟩
theorem gg_mem {a : gA} : ∀ k, a ∈ gr_g N L M k ↔ ∃ s p, s < k ∧ p < 2 * L.length ∧ a ∈ gr_p N L M s p
  | 0 => ⟨fun h => absurd h List.not_mem_nil, fun ⟨_, _, h, _⟩ => absurd h (by omega)⟩
  | k + 1 => by
    show a ∈ gr_g N L M k ++ gr_s N L M k (2 * L.length) ↔ _
    rw [List.mem_append, gg_mem k, gs_mem]
    constructor
    · rintro (⟨s, p, h1, h2⟩ | ⟨p, h1, h2⟩)
      · exact ⟨s, p, by omega, h2⟩
      · exact ⟨k, p, by omega, h1, h2⟩
    · rintro ⟨s, p, h1, h2, h3⟩
      by_cases z : s = k
      · rw [z] at h3
        exact Or.inr ⟨p, h2, h3⟩
      · exact Or.inl ⟨s, p, by omega, h2, h3⟩
theorem gx_mem {s p : Nat} {a : gA} : ∀ k, a ∈ gr_x N s p k ↔ ∃ j, j < k ∧ gr_may N j s ∧ a = (240 * j + p, 240 * s + p, 1125899906842624, 0)
  | 0 => ⟨fun h => absurd h List.not_mem_nil, fun ⟨_, h, _⟩ => absurd h (by omega)⟩
  | k + 1 => by
    have ih := gx_mem (s := s) (p := p) (a := a) k
    unfold gr_x
    by_cases z : gr_may N k s
    · rw [if_pos z, List.mem_append, ih, List.mem_singleton]
      constructor
      · rintro (⟨j, h1, h2⟩ | h)
        · exact ⟨j, by omega, h2⟩
        · exact ⟨k, by omega, z, h⟩
      · rintro ⟨j, h1, h2, h3⟩
        by_cases y : j = k
        · rw [y] at h3
          exact Or.inr h3
        · exact Or.inl ⟨j, by omega, h2, h3⟩
    · rw [if_neg z, ih]
      constructor
      · rintro ⟨j, h1, h2⟩
        exact ⟨j, by omega, h2⟩
      · rintro ⟨j, h1, h2, h3⟩
        by_cases y : j = k
        · rw [y] at h2
          exact absurd h2 z
        · exact ⟨j, by omega, h2, h3⟩
/-- an arc of the reference -/
theorem gp_mem {s p : Nat} {a : gA} (h : a ∈ gr_p N L M s p) : (N (2 + 24 * s + 1) = 1 ∧ 0 < gr_has N L s p ∧ a = (2880, 240 * s + p, gr_has N L s p, gr_cost N s)) ∨ (N (2 + 24 * s + 1) = 1 ∧ p + 1 < 2 * L.length ∧ a = (240 * s + p, 240 * s + p + 1, 1125899906842624, 0)) ∨ (¬ N (2 + 24 * s + 1) = 1 ∧ ¬ gr_has N L s p = 0 ∧ a = (240 * s + p, 2881, gr_has N L s p, gr_cost N s)) ∨ (¬ N (2 + 24 * s + 1) = 1 ∧ ¬ gr_has N L s p = 0 ∧ ∃ j, j < M ∧ gr_may N j s ∧ a = (240 * j + p, 240 * s + p, 1125899906842624, 0)) := by
  unfold gr_p at h
  by_cases z : N (2 + 24 * s + 1) = 1
  · rw [if_pos z, List.mem_append] at h
    rcases h with h | h
    · unfold gr_h1 at h
      by_cases y : 0 < gr_has N L s p
      · rw [if_pos y, List.mem_singleton] at h
        exact Or.inl ⟨z, y, h⟩
      · rw [if_neg y] at h
        exact absurd h List.not_mem_nil
    · unfold gr_h2 at h
      by_cases y : p + 1 < 2 * L.length
      · rw [if_pos y, List.mem_singleton] at h
        exact Or.inr (Or.inl ⟨z, y, h⟩)
      · rw [if_neg y] at h
        exact absurd h List.not_mem_nil
  · rw [if_neg z] at h
    by_cases y : gr_has N L s p = 0
    · rw [if_pos y] at h
      exact absurd h List.not_mem_nil
    · rw [if_neg y, List.mem_append, List.mem_singleton, gx_mem] at h
      rcases h with h | h
      · exact Or.inr (Or.inr (Or.inl ⟨z, y, h⟩))
      · exact Or.inr (Or.inr (Or.inr ⟨z, y, h⟩))
/-- heat of a place, as a whole number -/
def hr (N : Nat → Int32) (L : List Int32) (c : Nat) : Int := (gr_has N L (c / 240) (c % 240)).toInt
theorem gr_nn (k : tk N M) {s : Nat} (hs : s < M) (p : Nat) : 0 ≤ (gr_has N L s p).toInt ∧ (gr_has N L s p).toInt ≤ 2 ^ 50 ∧ (N (2 + 24 * s) < 3 → (gr_has N L s p).toInt ≤ 17600000) := by
  have ok := k.2.2 s hs
  have e3 : ¬ 3 ≤ N (2 + 24 * s) ↔ N (2 + 24 * s) < 3 := by
    rw [Int32.le_iff_toInt_le, lv_i]
    omega
  unfold gr_has
  by_cases z : 3 ≤ N (2 + 24 * s)
  · rw [if_pos z]
    have nz : ¬ N (2 + 24 * s) < 3 := fun q => (e3.mpr q) z
    split
    · refine ⟨by decide, by decide, fun q => absurd q nz⟩
    · refine ⟨by decide, by decide, fun q => absurd q nz⟩
  · rw [if_neg z]
    by_cases y : N (2 + 24 * s) = 1
    · have am := tl_am_in ok y
      rw [if_pos y]
      split
      · rw [rf_w]
        exact ⟨by omega, by omega, fun _ => by omega⟩
      · exact ⟨by decide, by decide, fun _ => by decide⟩
    · rw [if_neg y]
      split
      · have b := bw_i ok k.2.1 (L.getD (p / 2) 0) (L.getD (p / 2 + 1) 0)
        rw [b.1]
        exact ⟨b.2.1, by omega, fun _ => b.2.2⟩
      · exact ⟨by decide, by decide, fun _ => by decide⟩
def sum2 (M Q : Nat) (g : Nat → Nat → Int) : Int := fl_sum (fun s => fl_sum (fun p => g s p) Q) M
theorem sum2_c {M Q : Nat} {g h : Nat → Nat → Int} (e : ∀ s p, s < M → p < Q → g s p = h s p) : sum2 M Q g = sum2 M Q h := fl_sum_congr M (fun s hs => fl_sum_congr Q (fun p hp => e s p hs hp))
theorem i64_pos {x : Int64} : 0 < x ↔ 0 < x.toInt := Int64.lt_iff_toInt_lt
theorem i64_z {x : Int64} : x = 0 ↔ x.toInt = 0 := ⟨fun h => by rw [h]; rfl, fun h => Int64.toInt_inj.mp h⟩
theorem ref_sup (k : tk N M) (hQ : 2 * L.length ≤ 239) (G : Nat → Int) (hG : ∀ s p, s < M → p < 2 * L.length → hr N L (240 * s + p) = 0 → G (240 * s + p) = 0) : ls (fun a => if a.1 = 2880 then G a.2.1 else 0) (gr_g N L M M) = sum2 M (2 * L.length) (fun s p => if hotB N s = true then G (240 * s + p) else 0) := by
  have hM := k.1
  rw [ls_gg]
  refine sum2_c (fun s p hs hp => ?_)
  have eh : hr N L (240 * s + p) = (gr_has N L s p).toInt := by
    unfold hr
    rw [show (240 * s + p) / 240 = s by omega, show (240 * s + p) % 240 = p by omega]
  have nn := gr_nn (L := L) k hs p
  unfold gr_p
  by_cases z : N (2 + 24 * s + 1) = 1
  · rw [if_pos z, if_pos (hotB_t.mpr z), ls_app]
    have e2 : ls (fun a => if a.1 = 2880 then G a.2.1 else 0) (gr_h2 L s p) = 0 := by
      unfold gr_h2
      split
      · rw [ls_1]
        exact if_neg (by show ¬ 240 * s + p = 2880; omega)
      · rfl
    rw [e2, Int.add_zero]
    unfold gr_h1
    by_cases y : 0 < gr_has N L s p
    · rw [if_pos y, ls_1]
      exact if_pos rfl
    · rw [if_neg y]
      rw [i64_pos] at y
      exact (hG s p hs hp (by rw [eh]; omega)).symm
  · rw [if_neg z, if_neg (hotB_f.mpr z)]
    split
    · rfl
    · rw [ls_app, ls_1, ls_gx]
      have e1 : (if (240 * s + p, 2881, gr_has N L s p, gr_cost N s).1 = 2880 then G (240 * s + p, 2881, gr_has N L s p, gr_cost N s).2.1 else 0) = 0 := if_neg (by show ¬ 240 * s + p = 2880; omega)
      rw [e1, Int.zero_add]
      refine fs_0 M (fun a ha => ?_)
      split
      · exact if_neg (by show ¬ 240 * a + p = 2880; omega)
      · rfl
theorem ref_dem (k : tk N M) (hQ : 2 * L.length ≤ 239) (G : Nat → Int) (hG : ∀ s p, s < M → p < 2 * L.length → hr N L (240 * s + p) = 0 → G (240 * s + p) = 0) : ls (fun a => if a.2.1 = 2881 then G a.1 else 0) (gr_g N L M M) = sum2 M (2 * L.length) (fun s p => if hotB N s = true then 0 else G (240 * s + p)) := by
  have hM := k.1
  rw [ls_gg]
  refine sum2_c (fun s p hs hp => ?_)
  have eh : hr N L (240 * s + p) = (gr_has N L s p).toInt := by
    unfold hr
    rw [show (240 * s + p) / 240 = s by omega, show (240 * s + p) % 240 = p by omega]
  unfold gr_p
  by_cases z : N (2 + 24 * s + 1) = 1
  · rw [if_pos z, if_pos (hotB_t.mpr z), ls_app]
    have e2 : ls (fun a => if a.2.1 = 2881 then G a.1 else 0) (gr_h2 L s p) = 0 := by
      unfold gr_h2
      split
      · rw [ls_1]
        exact if_neg (by show ¬ 240 * s + p + 1 = 2881; omega)
      · rfl
    rw [e2, Int.add_zero]
    unfold gr_h1
    split
    · rw [ls_1]
      exact if_neg (by show ¬ 240 * s + p = 2881; omega)
    · rfl
  · rw [if_neg z, if_neg (hotB_f.mpr z)]
    by_cases y : gr_has N L s p = 0
    · rw [if_pos y]
      exact (hG s p hs hp (by rw [eh]; exact i64_z.mp y)).symm
    · rw [if_neg y, ls_app, ls_1, ls_gx]
      have e1 : (if (240 * s + p, 2881, gr_has N L s p, gr_cost N s).2.1 = 2881 then G (240 * s + p, 2881, gr_has N L s p, gr_cost N s).1 else 0) = G (240 * s + p) := if_pos rfl
      rw [e1]
      have e2 : fl_sum (fun a => if gr_may N a s then (if (240 * a + p, 240 * s + p, (1125899906842624 : Int64), (0 : Int32)).2.1 = 2881 then G (240 * a + p, 240 * s + p, (1125899906842624 : Int64), (0 : Int32)).1 else 0) else 0) M = 0 := by
        refine fs_0 M (fun a ha => ?_)
        split
        · exact if_neg (by show ¬ 240 * s + p = 2881; omega)
        · rfl
      rw [e2, Int.add_zero]
/-- the reference's flow of a plan -/
def f2 (N : Nat → Int32) (S E K : Nat → Int) (X : Nat → Nat → Int) (a : gA) : Int := if a.1 = 2880 then S a.2.1 else if a.2.1 = 2881 then E a.1 else if hotB N (a.2.1 / 240) = true then K a.1 else X (a.1 / 240) a.2.1
theorem ref_cv (k : tk N M) (hQ : 2 * L.length ≤ 239) {S E K : Nat → Int} {X : Nat → Nat → Int} (P : pn (hotB N) (gr_may N) M (2 * L.length) S E K X) (h0 : ∀ s p, s < M → p < 2 * L.length → hr N L (240 * s + p) = 0 → S (240 * s + p) = 0 ∧ E (240 * s + p) = 0) {π : Nat → Int} (p0 : π 2880 = 0) (p1 : π 2881 = 0) : ls (fun a => f2 N S E K X a * (π a.2.1 - π a.1)) (gr_g N L M M) = 0 := by
  have hM := k.1
  obtain ⟨P1, P2, P3, P4, P5, P6, P7⟩ := P
  rw [ls_gg]
  have hotS : ∀ s, s < M → N (2 + 24 * s + 1) = 1 → ∀ q, q ≤ 2 * L.length → fl_sum (fun p => ls (fun a => f2 N S E K X a * (π a.2.1 - π a.1)) (gr_p N L M s p)) q = fl_sum (fun p => fl_sum (fun i => if hotB N i = true then 0 else X s (240 * i + p)) M * π (240 * s + p)) q + (if 0 < q ∧ q < 2 * L.length then K (240 * s + (q - 1)) * π (240 * s + q) else 0) := by
    intro s hs z q
    induction q with
    | zero =>
      intro _
      show (0 : Int) = 0 + _
      rw [if_neg (by omega)]
      rfl
    | succ q ih =>
      intro hq
      have hh := hotB_t.mpr z
      have nn := gr_nn (L := L) k hs q
      have eh : hr N L (240 * s + q) = (gr_has N L s q).toInt := by
        unfold hr
        rw [show (240 * s + q) / 240 = s by omega, show (240 * s + q) % 240 = q by omega]
      have kk := P4 s q hs (by omega) hh
      have e1 : ls (fun a => f2 N S E K X a * (π a.2.1 - π a.1)) (gr_p N L M s q) = S (240 * s + q) * π (240 * s + q) + (if q + 1 < 2 * L.length then K (240 * s + q) * (π (240 * s + q + 1) - π (240 * s + q)) else 0) := by
        unfold gr_p
        rw [if_pos z, ls_app]
        have a1 : ls (fun a => f2 N S E K X a * (π a.2.1 - π a.1)) (gr_h1 N L s q) = S (240 * s + q) * π (240 * s + q) := by
          unfold gr_h1
          by_cases y : 0 < gr_has N L s q
          · rw [if_pos y, ls_1]
            show f2 N S E K X (2880, 240 * s + q, gr_has N L s q, gr_cost N s) * (π (240 * s + q) - π 2880) = _
            rw [p0, Int.sub_zero]
            rfl
          · rw [if_neg y]
            rw [i64_pos] at y
            rw [(h0 s q hs (by omega) (by rw [eh]; omega)).1, Int.zero_mul]
            rfl
        have a2 : ls (fun a => f2 N S E K X a * (π a.2.1 - π a.1)) (gr_h2 L s q) = if q + 1 < 2 * L.length then K (240 * s + q) * (π (240 * s + q + 1) - π (240 * s + q)) else 0 := by
          unfold gr_h2
          by_cases y : q + 1 < 2 * L.length
          · rw [if_pos y, if_pos y, ls_1]
            have ef : f2 N S E K X (240 * s + q, 240 * s + q + 1, 1125899906842624, 0) = K (240 * s + q) := by
              unfold f2
              rw [if_neg (show ¬ 240 * s + q = 2880 by omega), if_neg (show ¬ 240 * s + q + 1 = 2881 by omega)]
              refine if_pos ?_
              show hotB N ((240 * s + q + 1) / 240) = true
              rw [show (240 * s + q + 1) / 240 = s by omega]
              exact hh
            show f2 N S E K X (240 * s + q, 240 * s + q + 1, 1125899906842624, 0) * _ = _
            rw [ef]
          · rw [if_neg y, if_neg y]
            rfl
        rw [a1, a2]
      show fl_sum (fun p => ls (fun a => f2 N S E K X a * (π a.2.1 - π a.1)) (gr_p N L M s p)) q + ls (fun a => f2 N S E K X a * (π a.2.1 - π a.1)) (gr_p N L M s q) = fl_sum (fun p => fl_sum (fun i => if hotB N i = true then 0 else X s (240 * i + p)) M * π (240 * s + p)) q + fl_sum (fun i => if hotB N i = true then 0 else X s (240 * i + q)) M * π (240 * s + q) + _
      rw [ih (by omega), e1, show q + 1 - 1 = q by omega, show 240 * s + (q + 1) = 240 * s + q + 1 by omega]
      generalize fl_sum (fun i => if hotB N i = true then 0 else X s (240 * i + q)) M = xo at *
      have ck : (if 0 < q ∧ q < 2 * L.length then K (240 * s + (q - 1)) * π (240 * s + q) else 0) = (if q = 0 then 0 else K (240 * s + (q - 1))) * π (240 * s + q) := by
        by_cases y : q = 0
        · rw [if_pos y, if_neg (by omega), Int.zero_mul]
        · rw [if_neg y, if_pos (by omega)]
      rw [ck]
      generalize (if q = 0 then 0 else K (240 * s + (q - 1))) = kb at *
      by_cases y : q + 1 < 2 * L.length
      · rw [if_pos y, if_pos (by omega)]
        grind
      · rw [if_neg y, if_neg (by omega)]
        have k0 := P5 s hs hh (by omega)
        rw [show 2 * L.length - 1 = q by omega] at k0
        grind
  have cold : ∀ s, s < M → ¬ N (2 + 24 * s + 1) = 1 → ∀ p, p < 2 * L.length → ls (fun a => f2 N S E K X a * (π a.2.1 - π a.1)) (gr_p N L M s p) = -(fl_sum (fun a => X a (240 * s + p) * π (240 * a + p)) M) := by
    intro s hs z p hp
    have nh := hotB_f.mpr z
    have sm := P3 s p hs hp nh
    have eh : hr N L (240 * s + p) = (gr_has N L s p).toInt := by
      unfold hr
      rw [show (240 * s + p) / 240 = s by omega, show (240 * s + p) % 240 = p by omega]
    unfold gr_p
    rw [if_neg z]
    by_cases y : gr_has N L s p = 0
    · rw [if_pos y]
      have e0 := (h0 s p hs hp (by rw [eh]; exact i64_z.mp y)).2
      rw [e0] at sm
      have xz := fs_eq0 M (fun e _ => P2 e (240 * s + p)) sm
      rw [fs_0 M (fun a ha => by rw [xz a ha, Int.zero_mul])]
      rfl
    · rw [if_neg y, ls_app, ls_1, ls_gx]
      have ed : f2 N S E K X (240 * s + p, 2881, gr_has N L s p, gr_cost N s) = E (240 * s + p) := by
        unfold f2
        rw [if_neg (show ¬ 240 * s + p = 2880 by omega)]
        exact if_pos rfl
      show f2 N S E K X (240 * s + p, 2881, gr_has N L s p, gr_cost N s) * (π 2881 - π (240 * s + p)) + _ = _
      rw [ed, p1]
      have e2 : fl_sum (fun a => if gr_may N a s then f2 N S E K X (240 * a + p, 240 * s + p, 1125899906842624, 0) * (π (240 * s + p) - π (240 * a + p)) else 0) M = fl_sum (fun a => X a (240 * s + p) * π (240 * s + p) - X a (240 * s + p) * π (240 * a + p)) M := by
        refine fl_sum_congr M (fun a ha => ?_)
        by_cases w : gr_may N a s
        · rw [if_pos w]
          have ef : f2 N S E K X (240 * a + p, 240 * s + p, 1125899906842624, 0) = X a (240 * s + p) := by
            unfold f2
            rw [if_neg (show ¬ 240 * a + p = 2880 by omega), if_neg (show ¬ 240 * s + p = 2881 by omega), if_neg (show ¬ hotB N ((240 * s + p) / 240) = true by rw [show (240 * s + p) / 240 = s by omega]; exact nh)]
            show X ((240 * a + p) / 240) (240 * s + p) = _
            rw [show (240 * a + p) / 240 = a by omega]
          rw [ef, Int.mul_sub]
        · rw [if_neg w, P6 a s p hs hp nh (fun q => w q.2)]
          omega
      have e3 : fl_sum (fun a => X a (240 * s + p) * π (240 * s + p)) M = E (240 * s + p) * π (240 * s + p) := by
        rw [← sm, Int.mul_comm, ← fl_sum_mul]
        exact fl_sum_congr M (fun a _ => Int.mul_comm _ _)
      show _ + fl_sum (fun a => if gr_may N a s then f2 N S E K X (240 * a + p, 240 * s + p, 1125899906842624, 0) * (π (240 * s + p) - π (240 * a + p)) else 0) M = _
      rw [e2, fl_sum_sub, e3, Int.zero_sub, Int.mul_neg]
      omega
  obtain ⟨G, eG⟩ : ∃ G : Nat → Nat → Nat → Int, G = fun s i p => if hotB N s = true then (if hotB N i = true then 0 else X s (240 * i + p) * π (240 * s + p)) else 0 := ⟨_, rfl⟩
  have each : ∀ s, s < M → fl_sum (fun p => ls (fun a => f2 N S E K X a * (π a.2.1 - π a.1)) (gr_p N L M s p)) (2 * L.length) = fl_sum (fun p => fl_sum (fun i => G s i p) M) (2 * L.length) - fl_sum (fun p => fl_sum (fun a => G a s p) M) (2 * L.length) := by
    intro s hs
    by_cases z : N (2 + 24 * s + 1) = 1
    · have hh := hotB_t.mpr z
      rw [hotS s hs z _ (Nat.le_refl _), if_neg (by omega), Int.add_zero]
      have e1 : fl_sum (fun p => fl_sum (fun a => G a s p) M) (2 * L.length) = 0 := by
        refine fs_0 _ (fun p _ => fs_0 M (fun a _ => ?_))
        rw [eG]
        show (if hotB N a = true then (if hotB N s = true then 0 else _) else 0) = 0
        rw [if_pos hh, ite_self]
      rw [e1, Int.sub_zero]
      refine fl_sum_congr _ (fun p _ => ?_)
      rw [Int.mul_comm, ← fl_sum_mul]
      refine fl_sum_congr M (fun i _ => ?_)
      rw [eG]
      show _ = (if hotB N s = true then (if hotB N i = true then 0 else X s (240 * i + p) * π (240 * s + p)) else 0)
      rw [if_pos hh]
      by_cases w : hotB N i = true
      · rw [if_pos w, if_pos w, Int.mul_zero]
      · rw [if_neg w, if_neg w, Int.mul_comm]
    · have nh := hotB_f.mpr z
      have e1 : fl_sum (fun p => fl_sum (fun i => G s i p) M) (2 * L.length) = 0 := by
        refine fs_0 _ (fun p _ => fs_0 M (fun a _ => ?_))
        rw [eG]
        exact if_neg nh
      rw [e1, Int.zero_sub]
      have e2 : fl_sum (fun p => ls (fun a => f2 N S E K X a * (π a.2.1 - π a.1)) (gr_p N L M s p)) (2 * L.length) = fl_sum (fun p => (-1) * fl_sum (fun a => G a s p) M) (2 * L.length) := by
        refine fl_sum_congr _ (fun p hp => ?_)
        rw [cold s hs z p hp, Int.neg_one_mul]
        refine congrArg (fun x => -x) (fl_sum_congr M (fun a ha => ?_))
        rw [eG]
        show _ = (if hotB N a = true then (if hotB N s = true then 0 else X a (240 * s + p) * π (240 * a + p)) else 0)
        by_cases w : hotB N a = true
        · rw [if_pos w, if_neg nh]
        · rw [if_neg w, P6 a s p hs hp nh (fun q => w q.1), Int.zero_mul]
      rw [e2, fl_sum_mul, Int.neg_one_mul]
  rw [fl_sum_congr M each, fl_sum_sub]
  have sw : fl_sum (fun s => fl_sum (fun p => fl_sum (fun i => G s i p) M) (2 * L.length)) M = fl_sum (fun s => fl_sum (fun p => fl_sum (fun a => G a s p) M) (2 * L.length)) M := by
    have s1 : fl_sum (fun s => fl_sum (fun p => fl_sum (fun i => G s i p) M) (2 * L.length)) M = fl_sum (fun s => fl_sum (fun i => fl_sum (fun p => G s i p) (2 * L.length)) M) M := fl_sum_congr M (fun s _ => fs_swap (fun p i => G s i p) M (2 * L.length))
    rw [s1, fs_swap (fun s i => fl_sum (fun p => G s i p) (2 * L.length)) M M]
    exact fl_sum_congr M (fun i _ => fs_swap (fun a p => G a i p) (2 * L.length) M)
  rw [sw]
  omega
end
