/-! the reference: graph -/
def gr_cost (N : Nat → Int32) (s : Nat) : Int32 := if 3 ≤ N (2 + 24 * s) then N (2 + 24 * s + 5) else -1000000
abbrev gr_may (N : Nat → Int32) (a s : Nat) : Prop := N (2 + 24 * a + 1) = 1 ∧ ¬ N (678 + 12 * a + s) = 1 ∧ ¬ (3 ≤ N (2 + 24 * s) ∧ N (2 + 24 * a) = 3)
def gr_x (N : Nat → Int32) (s p : Nat) : Nat → List gA
  | 0 => []
  | a + 1 => if gr_may N a s then gr_x N s p a ++ [(240 * a + p, 240 * s + p, 1125899906842624, 0)] else gr_x N s p a
def gr_h1 (N : Nat → Int32) (L : List Int32) (s p : Nat) : List gA := if 0 < gr_has N L s p then [(2880, 240 * s + p, gr_has N L s p, gr_cost N s)] else []
def gr_h2 (L : List Int32) (s p : Nat) : List gA := if p + 1 < 2 * L.length then [(240 * s + p, 240 * s + p + 1, 1125899906842624, 0)] else []
def gr_p (N : Nat → Int32) (L : List Int32) (M s p : Nat) : List gA := if N (2 + 24 * s + 1) = 1 then gr_h1 N L s p ++ gr_h2 L s p else if gr_has N L s p = 0 then [] else [(240 * s + p, 2881, gr_has N L s p, gr_cost N s)] ++ gr_x N s p M
def gr_s (N : Nat → Int32) (L : List Int32) (M s : Nat) : Nat → List gA
  | 0 => []
  | p + 1 => gr_s N L M s p ++ gr_p N L M s p
def gr_g (N : Nat → Int32) (L : List Int32) (M : Nat) : Nat → List gA
  | 0 => []
  | s + 1 => gr_g N L M s ++ gr_s N L M s (2 * L.length)
/-- how many hot ones -/
def gr_nh (N : Nat → Int32) : Nat → Nat
  | 0 => 0
  | s + 1 => if N (2 + 24 * s + 1) = 1 then gr_nh N s + 1 else gr_nh N s
theorem gr_nh_le (N : Nat → Int32) : ∀ s, gr_nh N s ≤ s
  | 0 => Nat.le_refl 0
  | s + 1 => by
    have := gr_nh_le N s
    unfold gr_nh
    split <;> omega
theorem gr_nh_mono (N : Nat → Int32) (s : Nat) : ∀ d, gr_nh N s ≤ gr_nh N (s + d) ∧ gr_nh N (s + d) ≤ gr_nh N s + d
  | 0 => ⟨Nat.le_refl _, Nat.le_refl _⟩
  | d + 1 => by
    have := gr_nh_mono N s d
    show gr_nh N s ≤ gr_nh N (s + d + 1) ∧ gr_nh N (s + d + 1) ≤ _
    rw [gr_nh]
    split <;> omega
theorem gr_x_len (N : Nat → Int32) (s p : Nat) : ∀ a, (gr_x N s p a).length ≤ gr_nh N a
  | 0 => Nat.le_refl 0
  | a + 1 => by
    have := gr_x_len N s p a
    unfold gr_x gr_nh
    split
    · rename_i h
      rw [if_pos h.1, List.length_append]
      exact Nat.add_le_add_right this 1
    · split <;> omega
theorem gr_p_len (N : Nat → Int32) (L : List Int32) (M s p : Nat) : (gr_p N L M s p).length ≤ if N (2 + 24 * s + 1) = 1 then 2 else 1 + gr_nh N M := by
  unfold gr_p
  split
  · rw [List.length_append]
    unfold gr_h1 gr_h2
    split <;> split <;> simp
  · split
    · simp
    · rw [List.length_append]
      exact Nat.add_le_add_left (gr_x_len N s p M) 1
theorem gr_s_len (N : Nat → Int32) (L : List Int32) (M s : Nat) : ∀ p, (gr_s N L M s p).length ≤ p * (if N (2 + 24 * s + 1) = 1 then 2 else 1 + gr_nh N M)
  | 0 => by simp [gr_s]
  | p + 1 => by
    have h1 := gr_s_len N L M s p
    have h2 := gr_p_len N L M s p
    unfold gr_s
    rw [List.length_append, Nat.succ_mul]
    exact Nat.add_le_add h1 h2
theorem gr_g_len (N : Nat → Int32) (L : List Int32) (M : Nat) : ∀ s, (gr_g N L M s).length ≤ 2 * L.length * (2 * gr_nh N s + (s - gr_nh N s) * (1 + gr_nh N M))
  | 0 => by simp [gr_g]
  | s + 1 => by
    have h1 := gr_g_len N L M s
    have h2 := gr_s_len N L M s (2 * L.length)
    have h3 := gr_nh_le N s
    unfold gr_g
    rw [List.length_append]
    refine Nat.le_trans (Nat.add_le_add h1 h2) ?_
    rw [← Nat.mul_add]
    refine Nat.mul_le_mul_left _ ?_
    rw [show gr_nh N (s + 1) = if N (2 + 24 * s + 1) = 1 then gr_nh N s + 1 else gr_nh N s from rfl]
    generalize gr_nh N M = y
    split
    · rw [show s + 1 - (gr_nh N s + 1) = s - gr_nh N s by omega]
      omega
    · rw [show s + 1 - gr_nh N s = s - gr_nh N s + 1 by omega]
      have := Nat.add_mul (s - gr_nh N s) 1 (1 + y)
      omega
theorem gr_54 {h M : Nat} (hh : h ≤ M) (hM : M ≤ 12) : 2 * h + (M - h) * (1 + h) ≤ 54 := by
  have h1 : ∀ h : Fin 13, 2 * h.1 + (12 - h.1) * (1 + h.1) ≤ 54 := by decide
  have h2 := h1 ⟨h, by omega⟩
  have h3 : (M - h) * (1 + h) ≤ (12 - h) * (1 + h) := Nat.mul_le_mul_right _ (by omega)
  simp at h2
  omega
theorem gr_len (N : Nat → Int32) (L : List Int32) {M : Nat} (hM : M ≤ 12) (hL : L.length ≤ 110) : (gr_g N L M M).length ≤ 11880 := by
  have h1 := gr_g_len N L M M
  have h2 := gr_54 (gr_nh_le N M) hM
  have h3 : 2 * L.length * (2 * gr_nh N M + (M - gr_nh N M) * (1 + gr_nh N M)) ≤ 220 * 54 := Nat.mul_le_mul (by omega) h2
  omega
theorem gr_s_mono (N : Nat → Int32) (L : List Int32) (M s : Nat) (p : Nat) : ∀ d, (gr_s N L M s p).length ≤ (gr_s N L M s (p + d)).length
  | 0 => Nat.le_refl _
  | d + 1 => by
    show _ ≤ (gr_s N L M s (p + d + 1)).length
    rw [gr_s, List.length_append]
    exact Nat.le_trans (gr_s_mono N L M s p d) (Nat.le_add_right _ _)
theorem gr_g_mono (N : Nat → Int32) (L : List Int32) (M : Nat) (s : Nat) : ∀ d, (gr_g N L M s).length ≤ (gr_g N L M (s + d)).length
  | 0 => Nat.le_refl _
  | d + 1 => by
    show _ ≤ (gr_g N L M (s + d + 1)).length
    rw [gr_g, List.length_append]
    exact Nat.le_trans (gr_g_mono N L M s d) (Nat.le_add_right _ _)
theorem gr_x_mono (N : Nat → Int32) (s p : Nat) (a : Nat) : ∀ d, (gr_x N s p a).length ≤ (gr_x N s p (a + d)).length
  | 0 => Nat.le_refl _
  | d + 1 => by
    show _ ≤ (gr_x N s p (a + d + 1)).length
    have := gr_x_mono N s p a d
    rw [gr_x]
    split
    · rw [List.length_append]
      omega
    · exact this
def rf_GX (r : Nat) (Fin : rf_R → Prop) (pc : Nat) (ls : List Value) (R1 : rf_R) : Prop := ∃ R2, Fin R2 ∧ ∀ h, rf_At r R1 h → rf_G r 195 pc ls [] h none R2
/-- what the graph's loops stand on -/
def gr_env (R0 : rf_R) (L : List Int32) (M : Nat) : Prop := rf_Pre R0 M 0 ∧ R0.2.2.1 10 = nI L.length ∧ L.length ≤ 110 ∧ ∀ k, k < L.length → R0.1 9 k = L.getD k 0
theorem gr_env.k {R0 R1 : rf_R} {L : List Int32} {M : Nat} (e : gr_env R0 L M) (k : rf_kG R0 R1) : gr_env R1 L M := ⟨k.J.pre e.1, by rw [k.2.2.1 10 (by decide)]; exact e.2.1, e.2.2.1, fun j hj => by rw [k.1 9 (by decide)]; exact e.2.2.2 j hj⟩
theorem gr_nd (a p : Nat) : (240 : Int32) * nI a + nI p = nI (240 * a + p) := by rw [rf_lit 240, pk_mul, nI_add]
theorem gr_hloop (r : Nat) (R0 : rf_R) (L : List Int32) (M s p : Nat) (env : gr_env R0 L M) (hs : s < M) (hp : p < 2 * L.length) (A1 : List gA) (hA : A1.length + (gr_x (R0.1 0) s p M).length ≤ 23998) (Fin : rf_R → Prop) (pl hot bo cost : Int32) (hbo : bo = if 3 ≤ R0.1 0 (2 + 24 * s) then 1 else 0) (room : Int64)
    (K : ∀ R1 u9, rf_kG R0 R1 → rf_HG R1 (hv (A1 ++ gr_x (R0.1 0) s p M)) (hv_r (A1 ++ gr_x (R0.1 0) s p M)) → rf_GX r Fin 327 [.ref r, .int pl, .int (nI s), .int hot, .int bo, .int (nI p), .long room, .retAddr 0, .int cost, u9] R1) :
    ∀ d a R1, a + d = M → rf_kG R0 R1 → rf_HG R1 (hv (A1 ++ gr_x (R0.1 0) s p a)) (hv_r (A1 ++ gr_x (R0.1 0) s p a)) → rf_GX r Fin 248 [.ref r, .int pl, .int (nI s), .int hot, .int bo, .int (nI p), .long room, .retAddr 0, .int cost, .int (nI a)] R1 := by
  have hM := env.1.hM
  have hL := env.2.2.1
  intro d
  induction d with
  | zero =>
    intro a R1 ha k g
    obtain rfl : a = M := by omega
    obtain ⟨R2, f, gg⟩ := K R1 (.int (nI a)) k g
    refine ⟨R2, f, fun h H => ?_⟩
    have eM : R1.1 0 (Int32.toNatClampNeg 0) = nI a := (env.k k).1.eM
    refine rf_G.step (pc' := 250) (st' := [_]) rfl rfl ?_
    refine rf_G.step (pc' := 251) (st' := [_, _]) rfl rfl ?_
    refine rf_G.get H rfl rfl ?_
    refine rf_G.step (pc' := 255) (st' := [_, _, _]) rfl rfl ?_
    refine rf_G.iald H 0 1 822 (by decide) rfl (rf_ix (n := 0) (by decide) (by decide)) ?_
    rw [eM]
    refine rf_G.bc rfl (jx_br_ge _ _) (fun _ => ?_) (fun zq => absurd (Int32.le_refl _) zq)
    exact gg h H
  | succ d ih =>
    intro a R1 ha k g
    have eM : R1.1 0 (Int32.toNatClampNeg 0) = nI M := (env.k k).1.eM
    have eN : R1.1 0 = R0.1 0 := k.1 0 (by decide)
    have ha2 : a < 12 := by omega
    have c1 := rc_of r R1 a 1 ha2 (by decide)
    have c0 := rc_of r R1 a 0 ha2 (by decide)
    have cf := rc_isForbidden r R1 a s ha2 (by omega)
    rw [eN] at c0 c1 cf
    rw [Nat.add_zero] at c0
    have hx := gr_x_mono (R0.1 0) s p (a + 1) (M - (a + 1))
    rw [show a + 1 + (M - (a + 1)) = M by omega] at hx
    by_cases y : gr_may (R0.1 0) a s
    · have eu : gr_x (R0.1 0) s p (a + 1) = gr_x (R0.1 0) s p a ++ [(240 * a + p, 240 * s + p, 1125899906842624, 0)] := by
        conv => lhs; unfold gr_x
        rw [if_pos y]
      have el : (gr_x (R0.1 0) s p (a + 1)).length = (gr_x (R0.1 0) s p a).length + 1 := by
        rw [eu, List.length_append]
        rfl
      obtain ⟨R2, c2, k2, g2⟩ := rc_arc r R1 (A1 ++ gr_x (R0.1 0) s p a) g (by rw [List.length_append]; omega) (240 * a + p) (240 * s + p) (by omega) (by omega) 1125899906842624 0
      rw [List.append_assoc, ← eu] at g2
      obtain ⟨R3, f, gg⟩ := ih (a + 1) R2 (by omega) (k.tr k2) g2
      refine ⟨R3, f, fun h H => ?_⟩
      have t296 : ∀ h, rf_At r R1 h → rf_G r 195 296 [.ref r, .int pl, .int (nI s), .int hot, .int bo, .int (nI p), .long room, .retAddr 0, .int cost, .int (nI a)] [] h none R3 := by
        intro h H
        refine rf_G.step (pc' := 297) (st' := [_]) rfl rfl ?_
        refine rf_G.step (pc' := 300) (st' := [_, _]) rfl rfl ?_
        refine rf_G.step (pc' := 302) (st' := [_, _, _]) rfl rfl ?_
        refine rf_G.step (pc' := 303) (st' := [_, _]) rfl rfl ?_
        refine rf_G.step (pc' := 305) (st' := [_, _, _]) rfl rfl ?_
        refine rf_G.step (pc' := 306) (st' := [_, _]) rfl rfl ?_
        rw [gr_nd]
        refine rf_G.step (pc' := 309) (st' := [_, _, _]) rfl rfl ?_
        refine rf_G.step (pc' := 310) (st' := [_, _, _, _]) rfl rfl ?_
        refine rf_G.step (pc' := 311) (st' := [_, _, _]) rfl rfl ?_
        refine rf_G.step (pc' := 313) (st' := [_, _, _, _]) rfl rfl ?_
        refine rf_G.step (pc' := 314) (st' := [_, _, _]) rfl rfl ?_
        rw [gr_nd]
        refine rf_G.step (pc' := 317) (st' := [_, _, _, _]) rfl rfl ?_
        refine rf_G.step (pc' := 318) (st' := [_, _, _, _, _]) rfl rfl ?_
        refine rf_G.v4V H rfl (by decide) rfl ⟨Nat.le_of_ble_eq_true rfl, rfl⟩ (Nat.le_of_ble_eq_true rfl) (c2) (fun h H => ?_)
        refine rf_G.step (pc' := 324) (ls' := [_, _, _, _, _, _, _, _, _, _]) (st' := []) rfl rfl ?_
        refine rf_G.step (pc' := 248) (st' := []) rfl rfl ?_
        rw [nI_1]
        exact gg h H
      refine rf_G.step (pc' := 250) (st' := [_]) rfl rfl ?_
      refine rf_G.step (pc' := 251) (st' := [_, _]) rfl rfl ?_
      refine rf_G.get H rfl rfl ?_
      refine rf_G.step (pc' := 255) (st' := [_, _, _]) rfl rfl ?_
      refine rf_G.iald H 0 1 822 (by decide) rfl (rf_ix (n := 0) (by decide) (by decide)) ?_
      rw [eM]
      refine rf_G.bc rfl (jx_br_ge _ _) (fun zq => absurd zq (nI_ge (by omega) (by omega))) (fun _ => ?_)
      refine rf_G.step (pc' := 260) (st' := [_]) rfl rfl ?_
      refine rf_G.step (pc' := 262) (st' := [_, _]) rfl rfl ?_
      refine rf_G.step (pc' := 263) (st' := [_, _, _]) rfl rfl ?_
      refine rf_G.v2I H rfl (by decide) rfl ⟨Nat.le_of_ble_eq_true rfl, rfl⟩ (Nat.le_of_ble_eq_true rfl) (c1) (fun h H => ?_)
      refine rf_G.step (pc' := 267) (st' := [_, _]) rfl rfl ?_
      refine rf_G.bcn rfl (fun zq => absurd (y.1) zq) (fun _ => ?_)
      refine rf_G.step (pc' := 271) (st' := [_]) rfl rfl ?_
      refine rf_G.step (pc' := 273) (st' := [_, _]) rfl rfl ?_
      refine rf_G.step (pc' := 274) (st' := [_, _, _]) rfl rfl ?_
      refine rf_G.v2I H rfl (by decide) rfl ⟨Nat.le_of_ble_eq_true rfl, rfl⟩ (Nat.le_of_ble_eq_true rfl) (cf) (fun h H => ?_)
      refine rf_G.brn rfl (fun zq => absurd ((rf_o_0 _).mpr y.2.1) zq) (fun _ => ?_)
      refine rf_G.step (pc' := 282) (st' := [_]) rfl rfl ?_
      by_cases z : 3 ≤ R0.1 0 (2 + 24 * s)
      · rw [if_pos z] at hbo
        refine rf_G.br rfl (jx_br_eq _ _) (fun zq => absurd zq (by rw [hbo]; decide)) (fun _ => ?_)
        refine rf_G.step (pc' := 286) (st' := [_]) rfl rfl ?_
        refine rf_G.step (pc' := 288) (st' := [_, _]) rfl rfl ?_
        refine rf_G.step (pc' := 289) (st' := [_, _, _]) rfl rfl ?_
        refine rf_G.v2I H rfl (by decide) rfl ⟨Nat.le_of_ble_eq_true rfl, rfl⟩ (Nat.le_of_ble_eq_true rfl) (c0) (fun h H => ?_)
        refine rf_G.step (pc' := 293) (st' := [_, _]) rfl rfl ?_
        refine rf_G.bc rfl (jx_br_eq _ _) (fun zq => absurd zq (fun q => y.2.2 ⟨z, q⟩)) (fun _ => ?_)
        exact t296 h H
      · rw [if_neg z] at hbo
        refine rf_G.br rfl (jx_br_eq _ _) (fun _ => ?_) (fun zq => absurd (hbo) zq)
        exact t296 h H
    · have eu : gr_x (R0.1 0) s p (a + 1) = gr_x (R0.1 0) s p a := by
        conv => lhs; unfold gr_x
        rw [if_neg y]
      obtain ⟨R3, f, gg⟩ := ih (a + 1) R1 (by omega) k (by rw [eu]; exact g)
      refine ⟨R3, f, fun h H => ?_⟩
      have t321 : ∀ h, rf_At r R1 h → rf_G r 195 321 [.ref r, .int pl, .int (nI s), .int hot, .int bo, .int (nI p), .long room, .retAddr 0, .int cost, .int (nI a)] [] h none R3 := by
        intro h H
        refine rf_G.step (pc' := 324) (ls' := [_, _, _, _, _, _, _, _, _, _]) (st' := []) rfl rfl ?_
        refine rf_G.step (pc' := 248) (st' := []) rfl rfl ?_
        rw [nI_1]
        exact gg h H
      refine rf_G.step (pc' := 250) (st' := [_]) rfl rfl ?_
      refine rf_G.step (pc' := 251) (st' := [_, _]) rfl rfl ?_
      refine rf_G.get H rfl rfl ?_
      refine rf_G.step (pc' := 255) (st' := [_, _, _]) rfl rfl ?_
      refine rf_G.iald H 0 1 822 (by decide) rfl (rf_ix (n := 0) (by decide) (by decide)) ?_
      rw [eM]
      refine rf_G.bc rfl (jx_br_ge _ _) (fun zq => absurd zq (nI_ge (by omega) (by omega))) (fun _ => ?_)
      refine rf_G.step (pc' := 260) (st' := [_]) rfl rfl ?_
      refine rf_G.step (pc' := 262) (st' := [_, _]) rfl rfl ?_
      refine rf_G.step (pc' := 263) (st' := [_, _, _]) rfl rfl ?_
      refine rf_G.v2I H rfl (by decide) rfl ⟨Nat.le_of_ble_eq_true rfl, rfl⟩ (Nat.le_of_ble_eq_true rfl) (c1) (fun h H => ?_)
      refine rf_G.step (pc' := 267) (st' := [_, _]) rfl rfl ?_
      by_cases z1 : R0.1 0 (2 + 24 * a + 1) = 1
      · refine rf_G.bcn rfl (fun zq => absurd (z1) zq) (fun _ => ?_)
        refine rf_G.step (pc' := 271) (st' := [_]) rfl rfl ?_
        refine rf_G.step (pc' := 273) (st' := [_, _]) rfl rfl ?_
        refine rf_G.step (pc' := 274) (st' := [_, _, _]) rfl rfl ?_
        refine rf_G.v2I H rfl (by decide) rfl ⟨Nat.le_of_ble_eq_true rfl, rfl⟩ (Nat.le_of_ble_eq_true rfl) (cf) (fun h H => ?_)
        by_cases z2 : R0.1 0 (678 + 12 * a + s) = 1
        · refine rf_G.brn rfl (fun _ => ?_) (fun zq => absurd zq (fun q => (rf_o_0 _).mp q z2))
          exact t321 h H
        · refine rf_G.brn rfl (fun zq => absurd ((rf_o_0 _).mpr z2) zq) (fun _ => ?_)
          have z3 : 3 ≤ R0.1 0 (2 + 24 * s) ∧ R0.1 0 (2 + 24 * a) = 3 := Decidable.not_not.mp (fun q => y ⟨z1, z2, q⟩)
          rw [if_pos z3.1] at hbo
          refine rf_G.step (pc' := 282) (st' := [_]) rfl rfl ?_
          refine rf_G.br rfl (jx_br_eq _ _) (fun zq => absurd zq (by rw [hbo]; decide)) (fun _ => ?_)
          refine rf_G.step (pc' := 286) (st' := [_]) rfl rfl ?_
          refine rf_G.step (pc' := 288) (st' := [_, _]) rfl rfl ?_
          refine rf_G.step (pc' := 289) (st' := [_, _, _]) rfl rfl ?_
          refine rf_G.v2I H rfl (by decide) rfl ⟨Nat.le_of_ble_eq_true rfl, rfl⟩ (Nat.le_of_ble_eq_true rfl) (c0) (fun h H => ?_)
          refine rf_G.step (pc' := 293) (st' := [_, _]) rfl rfl ?_
          refine rf_G.bc rfl (jx_br_eq _ _) (fun _ => ?_) (fun zq => absurd (z3.2) zq)
          exact t321 h H
      · refine rf_G.bcn rfl (fun _ => ?_) (fun zq => absurd zq (z1))
        exact t321 h H
theorem gr_ploop (r : Nat) (R0 : rf_R) (L : List Int32) (M s : Nat) (env : gr_env R0 L M) (hs : s < M) (A0 : List gA) (hA : A0.length + (gr_s (R0.1 0) L M s (2 * L.length)).length ≤ 23998) (Fin : rf_R → Prop) (hot bo : Int32) (hh : hot = if R0.1 0 (2 + 24 * s + 1) = 1 then 1 else 0) (hbo : bo = if 3 ≤ R0.1 0 (2 + 24 * s) then 1 else 0)
    (K : ∀ R1 u6 u7 u8 u9, rf_kG R0 R1 → rf_HG R1 (hv (A0 ++ gr_s (R0.1 0) L M s (2 * L.length))) (hv_r (A0 ++ gr_s (R0.1 0) L M s (2 * L.length))) → rf_GX r Fin 333 [.ref r, .int (nI (2 * L.length)), .int (nI s), .int hot, .int bo, .int (nI (2 * L.length)), u6, u7, u8, u9] R1) :
    ∀ d p R1 u6 u7 u8 u9, p + d = 2 * L.length → rf_kG R0 R1 → rf_HG R1 (hv (A0 ++ gr_s (R0.1 0) L M s p)) (hv_r (A0 ++ gr_s (R0.1 0) L M s p)) → rf_GX r Fin 110 [.ref r, .int (nI (2 * L.length)), .int (nI s), .int hot, .int bo, .int (nI p), u6, u7, u8, u9] R1 := by
  have hM := env.1.hM
  have hL := env.2.2.1
  intro d
  induction d with
  | zero =>
    intro p R1 u6 u7 u8 u9 hp k g
    obtain rfl : p = 2 * L.length := by omega
    obtain ⟨R2, f, gg⟩ := K R1 u6 u7 u8 u9 k g
    refine ⟨R2, f, fun h H => ?_⟩
    refine rf_G.step (pc' := 112) (st' := [_]) rfl rfl ?_
    refine rf_G.step (pc' := 113) (st' := [_, _]) rfl rfl ?_
    refine rf_G.bc rfl (jx_br_ge _ _) (fun _ => ?_) (fun zq => absurd (Int32.le_refl _) zq)
    exact gg h H
  | succ d ih =>
    intro p R1 u6 u7 u8 u9 hp k g
    have e1 := env.k k
    have eN : R1.1 0 = R0.1 0 := k.1 0 (by decide)
    have ok := e1.1.ok s hs
    have chs := rc_has r R1 L e1.2.1 e1.2.2.1 e1.2.2.2 s p (by omega) ok.1 ok.2 (by omega)
    have c5 := rc_of r R1 s 5 (by omega) (by decide)
    rw [eN] at chs c5
    have es : gr_s (R0.1 0) L M s (p + 1) = gr_s (R0.1 0) L M s p ++ gr_p (R0.1 0) L M s p := rfl
    have hx := gr_s_mono (R0.1 0) L M s (p + 1) d
    rw [show p + 1 + d = 2 * L.length by omega, es, List.length_append] at hx
    -- what follows the row
    have nx : ∀ R2 u9, rf_kG R0 R2 → rf_HG R2 (hv (A0 ++ gr_s (R0.1 0) L M s p ++ gr_p (R0.1 0) L M s p)) (hv_r (A0 ++ gr_s (R0.1 0) L M s p ++ gr_p (R0.1 0) L M s p)) → rf_GX r Fin 327 [.ref r, .int (nI (2 * L.length)), .int (nI s), .int hot, .int bo, .int (nI p), .long (gr_has (R0.1 0) L s p), .retAddr 0, .int (gr_cost (R0.1 0) s), u9] R2 := by
      intro R2 u9 k2 g2
      obtain ⟨R3, f, gg⟩ := ih (p + 1) R2 (.long (gr_has (R0.1 0) L s p)) (.retAddr 0) (.int (gr_cost (R0.1 0) s)) u9 (by omega) k2 (by rw [es, ← List.append_assoc]; exact g2)
      refine ⟨R3, f, fun h H => ?_⟩
      refine rf_G.step (pc' := 330) (ls' := [_, _, _, _, _, _, _, _, _, _]) (st' := []) rfl rfl ?_
      refine rf_G.step (pc' := 110) (st' := []) rfl rfl ?_
      rw [nI_1]
      exact gg h H
    -- the row itself, from 144 on
    have row : rf_GX r Fin 144 [.ref r, .int (nI (2 * L.length)), .int (nI s), .int hot, .int bo, .int (nI p), .long (gr_has (R0.1 0) L s p), .retAddr 0, .int (gr_cost (R0.1 0) s), u9] R1 := by
      unfold gr_p at nx hx
      generalize hrm : gr_has (R0.1 0) L s p = room at *
      by_cases zh : R0.1 0 (2 + 24 * s + 1) = 1
      · rw [if_pos zh] at hh
        simp only [if_pos zh] at nx hx
        rw [List.length_append] at hx
        -- the second arc
        have two : ∀ R2, rf_kG R0 R2 → rf_HG R2 (hv (A0 ++ gr_s (R0.1 0) L M s p ++ gr_h1 (R0.1 0) L s p)) (hv_r (A0 ++ gr_s (R0.1 0) L M s p ++ gr_h1 (R0.1 0) L s p)) → rf_GX r Fin 174 [.ref r, .int (nI (2 * L.length)), .int (nI s), .int hot, .int bo, .int (nI p), .long room, .retAddr 0, .int (gr_cost (R0.1 0) s), u9] R2 := by
          intro R2 k2 g2
          unfold gr_h2 at nx hx
          have t212 : ∀ R3 R4, (∀ h, rf_At r R3 h → rf_G r 195 327 [.ref r, .int (nI (2 * L.length)), .int (nI s), .int hot, .int bo, .int (nI p), .long room, .retAddr 0, .int (gr_cost (R0.1 0) s), u9] [] h none R4) → ∀ h, rf_At r R3 h → rf_G r 195 212 [.ref r, .int (nI (2 * L.length)), .int (nI s), .int hot, .int bo, .int (nI p), .long room, .retAddr 0, .int (gr_cost (R0.1 0) s), u9] [] h none R4 := by
            intro R3 R4 gg h H
            refine rf_G.step (pc' := 213) (st' := [_]) rfl rfl ?_
            refine rf_G.brn rfl (fun _ => ?_) (fun zq => absurd zq (by rw [hh]; decide))
            exact gg h H
          by_cases z : p + 1 < 2 * L.length
          · simp only [if_pos z] at nx hx
            obtain ⟨R3, c3, k3, g3⟩ := rc_arc r R2 (A0 ++ gr_s (R0.1 0) L M s p ++ gr_h1 (R0.1 0) L s p) g2 (by rw [List.length_append, List.length_append]; simp only [List.length_singleton] at hx; omega) (240 * s + p) (240 * s + p + 1) (by omega) (by omega) 1125899906842624 0
            rw [List.append_assoc] at g3
            obtain ⟨R4, f, gg⟩ := nx R3 u9 (k2.tr k3) g3
            refine ⟨R4, f, fun h H => ?_⟩
            refine rf_G.step (pc' := 175) (st' := [_]) rfl rfl ?_
            refine rf_G.br rfl (jx_br_eq _ _) (fun zq => absurd zq (by rw [hh]; decide)) (fun _ => ?_)
            refine rf_G.step (pc' := 180) (st' := [_]) rfl rfl ?_
            refine rf_G.step (pc' := 181) (st' := [_, _]) rfl rfl ?_
            refine rf_G.step (pc' := 182) (st' := [_]) rfl rfl ?_
            refine rf_G.step (pc' := 183) (st' := [_, _]) rfl rfl ?_
            rw [nI_1]
            refine rf_G.bc rfl (jx_br_ge _ _) (fun zq => absurd zq (nI_ge z (by omega))) (fun _ => ?_)
            refine rf_G.step (pc' := 187) (st' := [_]) rfl rfl ?_
            refine rf_G.step (pc' := 190) (st' := [_, _]) rfl rfl ?_
            refine rf_G.step (pc' := 191) (st' := [_, _, _]) rfl rfl ?_
            refine rf_G.step (pc' := 192) (st' := [_, _]) rfl rfl ?_
            refine rf_G.step (pc' := 194) (st' := [_, _, _]) rfl rfl ?_
            refine rf_G.step (pc' := 195) (st' := [_, _]) rfl rfl ?_
            rw [gr_nd]
            refine rf_G.step (pc' := 198) (st' := [_, _, _]) rfl rfl ?_
            refine rf_G.step (pc' := 199) (st' := [_, _, _, _]) rfl rfl ?_
            refine rf_G.step (pc' := 200) (st' := [_, _, _]) rfl rfl ?_
            refine rf_G.step (pc' := 202) (st' := [_, _, _, _]) rfl rfl ?_
            refine rf_G.step (pc' := 203) (st' := [_, _, _]) rfl rfl ?_
            rw [gr_nd]
            refine rf_G.step (pc' := 204) (st' := [_, _, _, _]) rfl rfl ?_
            refine rf_G.step (pc' := 205) (st' := [_, _, _]) rfl rfl ?_
            rw [nI_1]
            refine rf_G.step (pc' := 208) (st' := [_, _, _, _]) rfl rfl ?_
            refine rf_G.step (pc' := 209) (st' := [_, _, _, _, _]) rfl rfl ?_
            refine rf_G.v4V H rfl (by decide) rfl ⟨Nat.le_of_ble_eq_true rfl, rfl⟩ (Nat.le_of_ble_eq_true rfl) (c3) (fun h H => ?_)
            exact t212 R3 R4 gg h H
          · simp only [if_neg z, List.append_nil] at nx
            obtain ⟨R4, f, gg⟩ := nx R2 u9 k2 g2
            refine ⟨R4, f, fun h H => ?_⟩
            refine rf_G.step (pc' := 175) (st' := [_]) rfl rfl ?_
            refine rf_G.br rfl (jx_br_eq _ _) (fun zq => absurd zq (by rw [hh]; decide)) (fun _ => ?_)
            refine rf_G.step (pc' := 180) (st' := [_]) rfl rfl ?_
            refine rf_G.step (pc' := 181) (st' := [_, _]) rfl rfl ?_
            refine rf_G.step (pc' := 182) (st' := [_]) rfl rfl ?_
            refine rf_G.step (pc' := 183) (st' := [_, _]) rfl rfl ?_
            rw [nI_1]
            refine rf_G.bc rfl (jx_br_ge _ _) (fun _ => ?_) (fun zq => absurd (nI_le (by omega) (by omega)) zq)
            exact t212 R2 R4 gg h H
        unfold gr_h1 at two hx
        rw [hrm] at two hx
        by_cases z : 0 < room
        · rw [if_pos z] at two hx
          obtain ⟨R3, c3, k3, g3⟩ := rc_arc r R1 (A0 ++ gr_s (R0.1 0) L M s p) g (by rw [List.length_append]; simp only [List.length_singleton] at hx; omega) 2880 (240 * s + p) (by omega) (by omega) room (gr_cost (R0.1 0) s)
          obtain ⟨R4, f, gg⟩ := two R3 (k.tr k3) g3
          refine ⟨R4, f, fun h H => ?_⟩
          refine rf_G.step (pc' := 145) (st' := [_]) rfl rfl ?_
          refine rf_G.br rfl (jx_br_eq _ _) (fun zq => absurd zq (by rw [hh]; decide)) (fun _ => ?_)
          refine rf_G.step (pc' := 150) (st' := [_]) rfl rfl ?_
          refine rf_G.step (pc' := 151) (st' := [_, _]) rfl rfl ?_
          refine rf_G.step (pc' := 152) (st' := [_]) rfl rfl ?_
          refine rf_G.br rfl (jx_br_le _ _) (fun zq => absurd zq (Int32.not_le.mpr ((lg_cmp_gt0 _ _).mpr z))) (fun _ => ?_)
          refine rf_G.step (pc' := 156) (st' := [_]) rfl rfl ?_
          refine rf_G.step (pc' := 159) (st' := [_, _]) rfl rfl ?_
          refine rf_G.step (pc' := 162) (st' := [_, _, _]) rfl rfl ?_
          refine rf_G.step (pc' := 163) (st' := [_, _, _, _]) rfl rfl ?_
          refine rf_G.step (pc' := 164) (st' := [_, _, _]) rfl rfl ?_
          refine rf_G.step (pc' := 166) (st' := [_, _, _, _]) rfl rfl ?_
          refine rf_G.step (pc' := 167) (st' := [_, _, _]) rfl rfl ?_
          rw [gr_nd]
          refine rf_G.step (pc' := 169) (st' := [_, _, _, _]) rfl rfl ?_
          refine rf_G.step (pc' := 171) (st' := [_, _, _, _, _]) rfl rfl ?_
          refine rf_G.v4V H rfl (by decide) rfl ⟨Nat.le_of_ble_eq_true rfl, rfl⟩ (Nat.le_of_ble_eq_true rfl) (c3) (fun h H => ?_)
          exact gg h H
        · rw [if_neg z, List.append_nil] at two
          obtain ⟨R4, f, gg⟩ := two R1 k g
          refine ⟨R4, f, fun h H => ?_⟩
          refine rf_G.step (pc' := 145) (st' := [_]) rfl rfl ?_
          refine rf_G.br rfl (jx_br_eq _ _) (fun zq => absurd zq (by rw [hh]; decide)) (fun _ => ?_)
          refine rf_G.step (pc' := 150) (st' := [_]) rfl rfl ?_
          refine rf_G.step (pc' := 151) (st' := [_, _]) rfl rfl ?_
          refine rf_G.step (pc' := 152) (st' := [_]) rfl rfl ?_
          refine rf_G.br rfl (jx_br_le _ _) (fun _ => ?_) (fun zq => absurd (Int32.not_lt.mp (fun q => z ((lg_cmp_gt0 _ _).mp q))) zq)
          exact gg h H
      · rw [if_neg zh] at hh
        simp only [if_neg zh] at nx hx
        have head : ∀ R4, (∀ h, rf_At r R1 h → rf_G r 195 220 [.ref r, .int (nI (2 * L.length)), .int (nI s), .int hot, .int bo, .int (nI p), .long room, .retAddr 0, .int (gr_cost (R0.1 0) s), u9] [.int (lg_cmp room 0)] h none R4) → ∀ h, rf_At r R1 h → rf_G r 195 144 [.ref r, .int (nI (2 * L.length)), .int (nI s), .int hot, .int bo, .int (nI p), .long room, .retAddr 0, .int (gr_cost (R0.1 0) s), u9] [] h none R4 := by
          intro R4 gg h H
          refine rf_G.step (pc' := 145) (st' := [_]) rfl rfl ?_
          refine rf_G.br rfl (jx_br_eq _ _) (fun _ => ?_) (fun zq => absurd (hh) zq)
          refine rf_G.step (pc' := 175) (st' := [_]) rfl rfl ?_
          refine rf_G.br rfl (jx_br_eq _ _) (fun _ => ?_) (fun zq => absurd (hh) zq)
          refine rf_G.step (pc' := 213) (st' := [_]) rfl rfl ?_
          refine rf_G.brn rfl (fun zq => absurd (hh) zq) (fun _ => ?_)
          refine rf_G.step (pc' := 218) (st' := [_]) rfl rfl ?_
          refine rf_G.step (pc' := 219) (st' := [_, _]) rfl rfl ?_
          refine rf_G.step (pc' := 220) (st' := [_]) rfl rfl ?_
          exact gg h H
        by_cases z : room = 0
        · simp only [if_pos z, List.append_nil] at nx
          obtain ⟨R4, f, gg⟩ := nx R1 u9 k g
          refine ⟨R4, f, head R4 (fun h H => ?_)⟩
          refine rf_G.brn rfl (fun zq => absurd ((lg_cmp_eq0 _ _).mpr z) zq) (fun _ => ?_)
          refine rf_G.step (pc' := 327) (st' := []) rfl rfl ?_
          exact gg h H
        · simp only [if_neg z] at nx hx
          rw [List.length_append, List.length_singleton] at hx
          obtain ⟨R3, c3, k3, g3⟩ := rc_arc r R1 (A0 ++ gr_s (R0.1 0) L M s p) g (by rw [List.length_append]; omega) (240 * s + p) 2881 (by omega) (by omega) room (gr_cost (R0.1 0) s)
          obtain ⟨R4, f, gg⟩ := gr_hloop r R0 L M s p env hs (by omega) (A0 ++ gr_s (R0.1 0) L M s p ++ [(240 * s + p, 2881, room, gr_cost (R0.1 0) s)]) (by rw [List.length_append, List.length_append, List.length_singleton]; omega) Fin (nI (2 * L.length)) hot bo (gr_cost (R0.1 0) s) hbo room (fun R5 u9 k5 g5 => nx R5 u9 k5 (by rw [← List.append_assoc]; exact g5)) M 0 R3 (by omega) (k.tr k3) (by rw [gr_x, List.append_nil]; exact g3)
          refine ⟨R4, f, head R4 (fun h H => ?_)⟩
          refine rf_G.brn rfl (fun _ => ?_) (fun zq => absurd zq (fun q => z ((lg_cmp_eq0 _ _).mp q)))
          refine rf_G.step (pc' := 227) (st' := [_]) rfl rfl ?_
          refine rf_G.step (pc' := 230) (st' := [_, _]) rfl rfl ?_
          refine rf_G.step (pc' := 231) (st' := [_, _, _]) rfl rfl ?_
          refine rf_G.step (pc' := 232) (st' := [_, _]) rfl rfl ?_
          refine rf_G.step (pc' := 234) (st' := [_, _, _]) rfl rfl ?_
          refine rf_G.step (pc' := 235) (st' := [_, _]) rfl rfl ?_
          rw [gr_nd]
          refine rf_G.step (pc' := 238) (st' := [_, _, _]) rfl rfl ?_
          refine rf_G.step (pc' := 240) (st' := [_, _, _, _]) rfl rfl ?_
          refine rf_G.step (pc' := 242) (st' := [_, _, _, _, _]) rfl rfl ?_
          refine rf_G.v4V H rfl (by decide) rfl ⟨Nat.le_of_ble_eq_true rfl, rfl⟩ (Nat.le_of_ble_eq_true rfl) (c3) (fun h H => ?_)
          refine rf_G.step (pc' := 246) (st' := [_]) rfl rfl ?_
          refine rf_G.step (pc' := 248) (ls' := [_, _, _, _, _, _, _, _, _, _]) (st' := []) rfl rfl ?_
          exact gg h H
    obtain ⟨R4, f, gg⟩ := row
    refine ⟨R4, f, fun h H => ?_⟩
    refine rf_G.step (pc' := 112) (st' := [_]) rfl rfl ?_
    refine rf_G.step (pc' := 113) (st' := [_, _]) rfl rfl ?_
    refine rf_G.bc rfl (jx_br_ge _ _) (fun zq => absurd zq (nI_ge (by omega) (by omega))) (fun _ => ?_)
    refine rf_G.step (pc' := 117) (st' := [_]) rfl rfl ?_
    refine rf_G.step (pc' := 118) (st' := [_, _]) rfl rfl ?_
    refine rf_G.step (pc' := 120) (st' := [_, _, _]) rfl rfl ?_
    refine rf_G.v2I H rfl (by decide) rfl ⟨Nat.le_of_ble_eq_true rfl, rfl⟩ (Nat.le_of_ble_eq_true rfl) (chs) (fun h H => ?_)
    refine rf_G.step (pc' := 125) (ls' := [_, _, _, _, _, _, _, _, _, _]) (st' := []) rfl rfl ?_
    refine rf_G.step (pc' := 127) (st' := [_]) rfl rfl ?_
    unfold gr_cost at gg
    by_cases z : 3 ≤ R0.1 0 (2 + 24 * s)
    · rw [if_pos z] at hbo gg
      refine rf_G.br rfl (jx_br_eq _ _) (fun zq => absurd zq (by rw [hbo]; decide)) (fun _ => ?_)
      refine rf_G.step (pc' := 131) (st' := [_]) rfl rfl ?_
      refine rf_G.step (pc' := 132) (st' := [_, _]) rfl rfl ?_
      refine rf_G.step (pc' := 133) (st' := [_, _, _]) rfl rfl ?_
      refine rf_G.v2I H rfl (by decide) rfl ⟨Nat.le_of_ble_eq_true rfl, rfl⟩ (Nat.le_of_ble_eq_true rfl) (c5) (fun h H => ?_)
      refine rf_G.step (pc' := 142) (st' := [_]) rfl rfl ?_
      refine rf_G.step (pc' := 144) (ls' := [_, _, _, _, _, _, _, _, _, _]) (st' := []) rfl rfl ?_
      exact gg h H
    · rw [if_neg z] at hbo gg
      refine rf_G.br rfl (jx_br_eq _ _) (fun _ => ?_) (fun zq => absurd (hbo) zq)
      refine rf_G.step (pc' := 142) (st' := [_]) rfl rfl ?_
      refine rf_G.step (pc' := 144) (ls' := [_, _, _, _, _, _, _, _, _, _]) (st' := []) rfl rfl ?_
      exact gg h H
