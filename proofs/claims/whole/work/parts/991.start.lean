/-! the reference is made -/
def k0_R : rf_R := (fun _ _ => 0, fun _ _ => 0, fun y => if y = 20 ∨ y = 24 then -1 else 0, fun y => if y = 21 ∨ y = 22 ∨ y = 23 then -1 else 0)
def kc129 : List jx_E := [.inl (0, 822, .inl fun _ => 0), .inl (0, 165222, .inl fun _ => 0), .inl (0, 16, .inl fun _ => 0), .inl (0, 2, .inl fun _ => 0), .inl (1, 2, .inr (.inl fun _ => 0)), .inl (0, 130, .inl fun _ => 0), .inl (1, 130, .inr (.inl fun _ => 0)), .inl (1, 130, .inr (.inl fun _ => 0)), .inl (1, 12, .inr (.inl fun _ => 0)), .inl (1, 14, .inr (.inl fun _ => 0)), .inl (1, 16384, .inr (.inl fun _ => 0)), .inl (0, 16384, .inl fun _ => 0), .inl (0, 48000, .inl fun _ => 0), .inl (0, 48000, .inl fun _ => 0), .inl (0, 48000, .inl fun _ => 0), .inl (1, 48000, .inr (.inl fun _ => 0)), .inl (0, 2882, .inl fun _ => 0), .inl (1, 2882, .inr (.inl fun _ => 0)), .inl (0, 2882, .inl fun _ => 0), .inl (3, 2882, .inl fun _ => 0), .inl (0, 2882, .inl fun _ => 0)]
def kz129 : Nat := 40 + 822 + 165222 + 16 + 2 + 2 + 130 + 130 + 130 + 12 + 14 + 16384 + 16384 + 48000 + 48000 + 48000 + 48000 + 2882 + 2882 + 2882 + 2882 + 2882
theorem k0_At (h : jx_H) (s : Nat) : rf_At h.1 k0_R (ha h s (([] : List jx_E) ++ .inr (12, rf_fs h.1 k0_R) :: kc129)) := by
  refine ⟨ha_get h s [] kc129 _, fun q hq => ?_⟩
  simp only [rf_tab, List.mem_cons, List.not_mem_nil, or_false] at hq
  rcases hq with rfl | rfl | rfl | rfl | rfl | rfl | rfl | rfl | rfl | rfl | rfl | rfl | rfl | rfl | rfl | rfl | rfl | rfl | rfl | rfl | rfl
  · exact ha_getq h s [] kc129 _ (j := 0) rfl
  · exact ha_getq h s [] kc129 _ (j := 1) rfl
  · exact ha_getq h s [] kc129 _ (j := 2) rfl
  · exact ha_getq h s [] kc129 _ (j := 3) rfl
  · exact ha_getq h s [] kc129 _ (j := 4) rfl
  · exact ha_getq h s [] kc129 _ (j := 5) rfl
  · exact ha_getq h s [] kc129 _ (j := 6) rfl
  · exact ha_getq h s [] kc129 _ (j := 7) rfl
  · exact ha_getq h s [] kc129 _ (j := 8) rfl
  · exact ha_getq h s [] kc129 _ (j := 9) rfl
  · exact ha_getq h s [] kc129 _ (j := 10) rfl
  · exact ha_getq h s [] kc129 _ (j := 11) rfl
  · exact ha_getq h s [] kc129 _ (j := 12) rfl
  · exact ha_getq h s [] kc129 _ (j := 13) rfl
  · exact ha_getq h s [] kc129 _ (j := 14) rfl
  · exact ha_getq h s [] kc129 _ (j := 15) rfl
  · exact ha_getq h s [] kc129 _ (j := 16) rfl
  · exact ha_getq h s [] kc129 _ (j := 17) rfl
  · exact ha_getq h s [] kc129 _ (j := 18) rfl
  · exact ha_getq h s [] kc129 _ (j := 19) rfl
  · exact ha_getq h s [] kc129 _ (j := 20) rfl
def k1_N : Nat → Nat → Int32
  | 0 => upd (fun _ => 0) 1 10
  | i + 1 => upd (k1_N i) (290 + 18 * i) (-1)
def k1_R : rf_R := rf_sA (rf_sA k0_R 0 (k1_N 8)) 1 (rf_put (fun _ => 0) (k1_N 8) (rf_pl 0 0) 822)
theorem ki_129b (r : Nat) (h : jx_H) (H : rf_At r k0_R h) : rf_G r 129 212 [.ref r, .retAddr 0] [] h none k1_R := by
  have loop : ∀ (d i : Nat), i + d = 8 → ∀ h, rf_At r (rf_sA k0_R 0 (k1_N i)) h → rf_G r 129 222 [.ref r, .int (nI i)] [] h none k1_R := by
    intro d
    induction d with
    | zero =>
      intro i hi h H
      obtain rfl : i = 8 := by omega
      refine rf_G.step (pc' := 223) (st' := [_]) rfl rfl ?_
      refine rf_G.step (pc' := 225) (st' := [_, _]) rfl rfl ?_
      refine rf_G.bc rfl (jx_br_ge _ _) (fun _ => ?_) (fun zq => absurd (by decide) zq)
      refine rf_G.step (pc' := 249) (st' := [_]) rfl rfl ?_
      refine rf_G.v0V H rfl (by decide) rfl ⟨Nat.le_of_ble_eq_true rfl, rfl⟩ (Nat.le_of_ble_eq_true rfl) (rc_keeps r (rf_sA k0_R 0 (k1_N 8)) 0 0 (by decide) (by decide) rfl rfl) (fun h H => ?_)
      exact rf_G.ret H rfl rfl
    | succ d ih =>
      intro i hi h H
      refine rf_G.step (pc' := 223) (st' := [_]) rfl rfl ?_
      refine rf_G.step (pc' := 225) (st' := [_, _]) rfl rfl ?_
      refine rf_G.bc rfl (jx_br_ge _ _) (fun zq => absurd zq (by rw [rf_lit 8]; exact nI_ge (by omega) (by decide))) (fun _ => ?_)
      refine rf_G.step (pc' := 229) (st' := [_]) rfl rfl ?_
      refine rf_G.get H rfl rfl ?_
      refine rf_G.step (pc' := 235) (st' := [_, _]) rfl rfl ?_
      refine rf_G.step (pc' := 237) (st' := [_, _, _]) rfl rfl ?_
      refine rf_G.step (pc' := 238) (st' := [_, _, _, _]) rfl rfl ?_
      refine rf_G.step (pc' := 239) (st' := [_, _, _]) rfl rfl ?_
      refine rf_G.step (pc' := 240) (st' := [_, _]) rfl rfl ?_
      rw [rf_lit 290, rf_lit 18, pk_mul, nI_add]
      refine rf_G.step (pc' := 241) (st' := [_, _, _]) rfl rfl ?_
      refine rf_G.iast H 0 1 822 (by decide) rfl (rf_ix (by omega) (by decide)) (fun h H => ?_)
      rw [nI_clamp (by omega), rf_sA_sA, rf_sA_at] at H
      refine rf_G.step (pc' := 245) (ls' := [_, _]) (st' := []) rfl rfl ?_
      refine rf_G.step (pc' := 222) (st' := []) rfl rfl ?_
      show rf_G r 129 222 [.ref r, .int (nI i + 1)] [] h none _
      rw [nI_1]
      exact ih (i + 1) (by omega) h H
  refine rf_G.step (pc' := 213) (st' := [_]) rfl rfl ?_
  refine rf_G.get H rfl rfl ?_
  refine rf_G.step (pc' := 217) (st' := [_, _]) rfl rfl ?_
  refine rf_G.step (pc' := 219) (st' := [_, _, _]) rfl rfl ?_
  refine rf_G.iast H 0 1 822 (by decide) rfl (by decide) (fun h H => ?_)
  refine rf_G.step (pc' := 221) (st' := [_]) rfl rfl ?_
  refine rf_G.step (pc' := 222) (ls' := [_, _]) (st' := []) rfl rfl ?_
  exact loop 8 0 rfl h H
theorem ki_129_0 (h h2 : jx_H) (v : Option Value) (t : jx_T 129 29 [.ref (h.1 + ([] : List jx_E).length), .retAddr 0] [] (ha h (40 + 822 + 165222 + 16) (([] : List jx_E) ++ .inr (12, [.ref (h.1 + 1), .ref (h.1 + 2), .int 0, .int 0, .int 0, .ref (h.1 + 3), .int 0, .null, .null, .null, .int 0, .null, .null, .long 0, .long 0, .long 0, .long 0, .long 0, .long 0, .null, .int 0, .long 0, .long 0, .long 0, .int 0, .int 0, .null, .null, .null, .int 0, .null, .null, .null, .null, .null, .null, .null, .null, .null, .int 0]) :: [.inl (0, 822, .inl fun _ => 0), .inl (0, 165222, .inl fun _ => 0), .inl (0, 16, .inl fun _ => 0)])) v h2) : jx_T 129 0 [.ref (h.1 + ([] : List jx_E).length), .retAddr 0] [] (ha h (40) (([] : List jx_E) ++ .inr (12, jx_dfl.getD 12 []) :: [])) v h2 := by
  refine jx_T.step (pc' := 1) (st' := [_]) rfl rfl ?_
  refine jx_T.step (pc' := 4) (st' := []) rfl rfl ?_
  refine jx_T.step (pc' := 5) (st' := [_]) rfl rfl ?_
  refine jx_T.step (pc' := 8) (st' := [_, _]) rfl rfl ?_
  refine ha.newI rfl (by decide) (by decide) ?_
  refine ha.put rfl rfl rfl ?_
  refine jx_T.step (pc' := 14) (st' := [_]) rfl rfl ?_
  refine jx_T.step (pc' := 16) (st' := [_, _]) rfl rfl ?_
  refine ha.newI rfl (by decide) (by decide) ?_
  refine ha.put rfl rfl rfl ?_
  refine jx_T.step (pc' := 22) (st' := [_]) rfl rfl ?_
  refine jx_T.step (pc' := 24) (st' := [_, _]) rfl rfl ?_
  refine ha.newI rfl (by decide) (by decide) ?_
  refine ha.put rfl rfl rfl ?_
  exact t
theorem ki_129_29 (h h2 : jx_H) (v : Option Value) (t : jx_T 129 52 [.ref (h.1 + ([] : List jx_E).length), .retAddr 0] [] (ha h (40 + 822 + 165222 + 16 + 2 + 2 + 130) (([] : List jx_E) ++ .inr (12, [.ref (h.1 + 1), .ref (h.1 + 2), .int 0, .int 0, .int 0, .ref (h.1 + 3), .int 0, .ref (h.1 + 4), .ref (h.1 + 5), .ref (h.1 + 6), .int 0, .null, .null, .long 0, .long 0, .long 0, .long 0, .long 0, .long 0, .null, .int 0, .long 0, .long 0, .long 0, .int 0, .int 0, .null, .null, .null, .int 0, .null, .null, .null, .null, .null, .null, .null, .null, .null, .int 0]) :: [.inl (0, 822, .inl fun _ => 0), .inl (0, 165222, .inl fun _ => 0), .inl (0, 16, .inl fun _ => 0), .inl (0, 2, .inl fun _ => 0), .inl (1, 2, .inr (.inl fun _ => 0)), .inl (0, 130, .inl fun _ => 0)])) v h2) : jx_T 129 29 [.ref (h.1 + ([] : List jx_E).length), .retAddr 0] [] (ha h (40 + 822 + 165222 + 16) (([] : List jx_E) ++ .inr (12, [.ref (h.1 + 1), .ref (h.1 + 2), .int 0, .int 0, .int 0, .ref (h.1 + 3), .int 0, .null, .null, .null, .int 0, .null, .null, .long 0, .long 0, .long 0, .long 0, .long 0, .long 0, .null, .int 0, .long 0, .long 0, .long 0, .int 0, .int 0, .null, .null, .null, .int 0, .null, .null, .null, .null, .null, .null, .null, .null, .null, .int 0]) :: [.inl (0, 822, .inl fun _ => 0), .inl (0, 165222, .inl fun _ => 0), .inl (0, 16, .inl fun _ => 0)])) v h2 := by
  refine jx_T.step (pc' := 30) (st' := [_]) rfl rfl ?_
  refine jx_T.step (pc' := 31) (st' := [_, _]) rfl rfl ?_
  refine ha.newI rfl (by decide) (by decide) ?_
  refine ha.put rfl rfl rfl ?_
  refine jx_T.step (pc' := 37) (st' := [_]) rfl rfl ?_
  refine jx_T.step (pc' := 38) (st' := [_, _]) rfl rfl ?_
  refine ha.newL rfl (by decide) ?_
  refine ha.put rfl rfl rfl ?_
  refine jx_T.step (pc' := 44) (st' := [_]) rfl rfl ?_
  refine jx_T.step (pc' := 47) (st' := [_, _]) rfl rfl ?_
  refine ha.newI rfl (by decide) (by decide) ?_
  refine ha.put rfl rfl rfl ?_
  exact t
theorem ki_129_52 (h h2 : jx_H) (v : Option Value) (t : jx_T 129 78 [.ref (h.1 + ([] : List jx_E).length), .retAddr 0] [] (ha h (40 + 822 + 165222 + 16 + 2 + 2 + 130 + 130 + 130 + 12) (([] : List jx_E) ++ .inr (12, [.ref (h.1 + 1), .ref (h.1 + 2), .int 0, .int 0, .int 0, .ref (h.1 + 3), .int 0, .ref (h.1 + 4), .ref (h.1 + 5), .ref (h.1 + 6), .int 0, .ref (h.1 + 7), .ref (h.1 + 8), .long 0, .long 0, .long 0, .long 0, .long 0, .long 0, .ref (h.1 + 9), .int 0, .long 0, .long 0, .long 0, .int 0, .int 0, .null, .null, .null, .int 0, .null, .null, .null, .null, .null, .null, .null, .null, .null, .int 0]) :: [.inl (0, 822, .inl fun _ => 0), .inl (0, 165222, .inl fun _ => 0), .inl (0, 16, .inl fun _ => 0), .inl (0, 2, .inl fun _ => 0), .inl (1, 2, .inr (.inl fun _ => 0)), .inl (0, 130, .inl fun _ => 0), .inl (1, 130, .inr (.inl fun _ => 0)), .inl (1, 130, .inr (.inl fun _ => 0)), .inl (1, 12, .inr (.inl fun _ => 0))])) v h2) : jx_T 129 52 [.ref (h.1 + ([] : List jx_E).length), .retAddr 0] [] (ha h (40 + 822 + 165222 + 16 + 2 + 2 + 130) (([] : List jx_E) ++ .inr (12, [.ref (h.1 + 1), .ref (h.1 + 2), .int 0, .int 0, .int 0, .ref (h.1 + 3), .int 0, .ref (h.1 + 4), .ref (h.1 + 5), .ref (h.1 + 6), .int 0, .null, .null, .long 0, .long 0, .long 0, .long 0, .long 0, .long 0, .null, .int 0, .long 0, .long 0, .long 0, .int 0, .int 0, .null, .null, .null, .int 0, .null, .null, .null, .null, .null, .null, .null, .null, .null, .int 0]) :: [.inl (0, 822, .inl fun _ => 0), .inl (0, 165222, .inl fun _ => 0), .inl (0, 16, .inl fun _ => 0), .inl (0, 2, .inl fun _ => 0), .inl (1, 2, .inr (.inl fun _ => 0)), .inl (0, 130, .inl fun _ => 0)])) v h2 := by
  refine jx_T.step (pc' := 53) (st' := [_]) rfl rfl ?_
  refine jx_T.step (pc' := 56) (st' := [_, _]) rfl rfl ?_
  refine ha.newL rfl (by decide) ?_
  refine ha.put rfl rfl rfl ?_
  refine jx_T.step (pc' := 62) (st' := [_]) rfl rfl ?_
  refine jx_T.step (pc' := 65) (st' := [_, _]) rfl rfl ?_
  refine ha.newL rfl (by decide) ?_
  refine ha.put rfl rfl rfl ?_
  refine jx_T.step (pc' := 71) (st' := [_]) rfl rfl ?_
  refine jx_T.step (pc' := 73) (st' := [_, _]) rfl rfl ?_
  refine ha.newL rfl (by decide) ?_
  refine ha.put rfl rfl rfl ?_
  exact t
theorem ki_129_78 (h h2 : jx_H) (v : Option Value) (t : jx_T 129 109 [.ref (h.1 + ([] : List jx_E).length), .retAddr 0] [] (ha h (40 + 822 + 165222 + 16 + 2 + 2 + 130 + 130 + 130 + 12) (([] : List jx_E) ++ .inr (12, [.ref (h.1 + 1), .ref (h.1 + 2), .int 0, .int 0, .int 0, .ref (h.1 + 3), .int 0, .ref (h.1 + 4), .ref (h.1 + 5), .ref (h.1 + 6), .int 0, .ref (h.1 + 7), .ref (h.1 + 8), .long 0, .long 0, .long 0, .long 0, .long 0, .long 0, .ref (h.1 + 9), .int (-1), .long (-1), .long (-1), .long (-1), .int (-1), .int 0, .null, .null, .null, .int 0, .null, .null, .null, .null, .null, .null, .null, .null, .null, .int 0]) :: [.inl (0, 822, .inl fun _ => 0), .inl (0, 165222, .inl fun _ => 0), .inl (0, 16, .inl fun _ => 0), .inl (0, 2, .inl fun _ => 0), .inl (1, 2, .inr (.inl fun _ => 0)), .inl (0, 130, .inl fun _ => 0), .inl (1, 130, .inr (.inl fun _ => 0)), .inl (1, 130, .inr (.inl fun _ => 0)), .inl (1, 12, .inr (.inl fun _ => 0))])) v h2) : jx_T 129 78 [.ref (h.1 + ([] : List jx_E).length), .retAddr 0] [] (ha h (40 + 822 + 165222 + 16 + 2 + 2 + 130 + 130 + 130 + 12) (([] : List jx_E) ++ .inr (12, [.ref (h.1 + 1), .ref (h.1 + 2), .int 0, .int 0, .int 0, .ref (h.1 + 3), .int 0, .ref (h.1 + 4), .ref (h.1 + 5), .ref (h.1 + 6), .int 0, .ref (h.1 + 7), .ref (h.1 + 8), .long 0, .long 0, .long 0, .long 0, .long 0, .long 0, .ref (h.1 + 9), .int 0, .long 0, .long 0, .long 0, .int 0, .int 0, .null, .null, .null, .int 0, .null, .null, .null, .null, .null, .null, .null, .null, .null, .int 0]) :: [.inl (0, 822, .inl fun _ => 0), .inl (0, 165222, .inl fun _ => 0), .inl (0, 16, .inl fun _ => 0), .inl (0, 2, .inl fun _ => 0), .inl (1, 2, .inr (.inl fun _ => 0)), .inl (0, 130, .inl fun _ => 0), .inl (1, 130, .inr (.inl fun _ => 0)), .inl (1, 130, .inr (.inl fun _ => 0)), .inl (1, 12, .inr (.inl fun _ => 0))])) v h2 := by
  refine jx_T.step (pc' := 79) (st' := [_]) rfl rfl ?_
  refine jx_T.step (pc' := 80) (st' := [_, _]) rfl rfl ?_
  refine ha.put rfl rfl rfl ?_
  refine jx_T.step (pc' := 84) (st' := [_]) rfl rfl ?_
  refine jx_T.step (pc' := 87) (st' := [_, _]) rfl rfl ?_
  refine ha.put rfl rfl rfl ?_
  refine jx_T.step (pc' := 91) (st' := [_]) rfl rfl ?_
  refine jx_T.step (pc' := 94) (st' := [_, _]) rfl rfl ?_
  refine ha.put rfl rfl rfl ?_
  refine jx_T.step (pc' := 98) (st' := [_]) rfl rfl ?_
  refine jx_T.step (pc' := 101) (st' := [_, _]) rfl rfl ?_
  refine ha.put rfl rfl rfl ?_
  refine jx_T.step (pc' := 105) (st' := [_]) rfl rfl ?_
  refine jx_T.step (pc' := 106) (st' := [_, _]) rfl rfl ?_
  refine ha.put rfl rfl rfl ?_
  exact t
theorem ki_129_109 (h h2 : jx_H) (v : Option Value) (t : jx_T 129 135 [.ref (h.1 + ([] : List jx_E).length), .retAddr 0] [] (ha h (40 + 822 + 165222 + 16 + 2 + 2 + 130 + 130 + 130 + 12 + 14 + 16384 + 16384) (([] : List jx_E) ++ .inr (12, [.ref (h.1 + 1), .ref (h.1 + 2), .int 0, .int 0, .int 0, .ref (h.1 + 3), .int 0, .ref (h.1 + 4), .ref (h.1 + 5), .ref (h.1 + 6), .int 0, .ref (h.1 + 7), .ref (h.1 + 8), .long 0, .long 0, .long 0, .long 0, .long 0, .long 0, .ref (h.1 + 9), .int (-1), .long (-1), .long (-1), .long (-1), .int (-1), .int 0, .ref (h.1 + 10), .ref (h.1 + 11), .ref (h.1 + 12), .int 0, .null, .null, .null, .null, .null, .null, .null, .null, .null, .int 0]) :: [.inl (0, 822, .inl fun _ => 0), .inl (0, 165222, .inl fun _ => 0), .inl (0, 16, .inl fun _ => 0), .inl (0, 2, .inl fun _ => 0), .inl (1, 2, .inr (.inl fun _ => 0)), .inl (0, 130, .inl fun _ => 0), .inl (1, 130, .inr (.inl fun _ => 0)), .inl (1, 130, .inr (.inl fun _ => 0)), .inl (1, 12, .inr (.inl fun _ => 0)), .inl (1, 14, .inr (.inl fun _ => 0)), .inl (1, 16384, .inr (.inl fun _ => 0)), .inl (0, 16384, .inl fun _ => 0)])) v h2) : jx_T 129 109 [.ref (h.1 + ([] : List jx_E).length), .retAddr 0] [] (ha h (40 + 822 + 165222 + 16 + 2 + 2 + 130 + 130 + 130 + 12) (([] : List jx_E) ++ .inr (12, [.ref (h.1 + 1), .ref (h.1 + 2), .int 0, .int 0, .int 0, .ref (h.1 + 3), .int 0, .ref (h.1 + 4), .ref (h.1 + 5), .ref (h.1 + 6), .int 0, .ref (h.1 + 7), .ref (h.1 + 8), .long 0, .long 0, .long 0, .long 0, .long 0, .long 0, .ref (h.1 + 9), .int (-1), .long (-1), .long (-1), .long (-1), .int (-1), .int 0, .null, .null, .null, .int 0, .null, .null, .null, .null, .null, .null, .null, .null, .null, .int 0]) :: [.inl (0, 822, .inl fun _ => 0), .inl (0, 165222, .inl fun _ => 0), .inl (0, 16, .inl fun _ => 0), .inl (0, 2, .inl fun _ => 0), .inl (1, 2, .inr (.inl fun _ => 0)), .inl (0, 130, .inl fun _ => 0), .inl (1, 130, .inr (.inl fun _ => 0)), .inl (1, 130, .inr (.inl fun _ => 0)), .inl (1, 12, .inr (.inl fun _ => 0))])) v h2 := by
  refine jx_T.step (pc' := 110) (st' := [_]) rfl rfl ?_
  refine jx_T.step (pc' := 112) (st' := [_, _]) rfl rfl ?_
  refine ha.newL rfl (by decide) ?_
  refine ha.put rfl rfl rfl ?_
  refine jx_T.step (pc' := 118) (st' := [_]) rfl rfl ?_
  refine jx_T.step (pc' := 121) (st' := [_, _]) rfl rfl ?_
  refine ha.newL rfl (by decide) ?_
  refine ha.put rfl rfl rfl ?_
  refine jx_T.step (pc' := 127) (st' := [_]) rfl rfl ?_
  refine jx_T.step (pc' := 130) (st' := [_, _]) rfl rfl ?_
  refine ha.newI rfl (by decide) (by decide) ?_
  refine ha.put rfl rfl rfl ?_
  exact t
theorem ki_129_135 (h h2 : jx_H) (v : Option Value) (t : jx_T 129 151 [.ref (h.1 + ([] : List jx_E).length), .retAddr 0] [] (ha h (40 + 822 + 165222 + 16 + 2 + 2 + 130 + 130 + 130 + 12 + 14 + 16384 + 16384 + 48000 + 48000) (([] : List jx_E) ++ .inr (12, [.ref (h.1 + 1), .ref (h.1 + 2), .int 0, .int 0, .int 0, .ref (h.1 + 3), .int 0, .ref (h.1 + 4), .ref (h.1 + 5), .ref (h.1 + 6), .int 0, .ref (h.1 + 7), .ref (h.1 + 8), .long 0, .long 0, .long 0, .long 0, .long 0, .long 0, .ref (h.1 + 9), .int (-1), .long (-1), .long (-1), .long (-1), .int (-1), .int 0, .ref (h.1 + 10), .ref (h.1 + 11), .ref (h.1 + 12), .int 0, .ref (h.1 + 13), .ref (h.1 + 14), .null, .null, .null, .null, .null, .null, .null, .int 0]) :: [.inl (0, 822, .inl fun _ => 0), .inl (0, 165222, .inl fun _ => 0), .inl (0, 16, .inl fun _ => 0), .inl (0, 2, .inl fun _ => 0), .inl (1, 2, .inr (.inl fun _ => 0)), .inl (0, 130, .inl fun _ => 0), .inl (1, 130, .inr (.inl fun _ => 0)), .inl (1, 130, .inr (.inl fun _ => 0)), .inl (1, 12, .inr (.inl fun _ => 0)), .inl (1, 14, .inr (.inl fun _ => 0)), .inl (1, 16384, .inr (.inl fun _ => 0)), .inl (0, 16384, .inl fun _ => 0), .inl (0, 48000, .inl fun _ => 0), .inl (0, 48000, .inl fun _ => 0)])) v h2) : jx_T 129 135 [.ref (h.1 + ([] : List jx_E).length), .retAddr 0] [] (ha h (40 + 822 + 165222 + 16 + 2 + 2 + 130 + 130 + 130 + 12 + 14 + 16384 + 16384) (([] : List jx_E) ++ .inr (12, [.ref (h.1 + 1), .ref (h.1 + 2), .int 0, .int 0, .int 0, .ref (h.1 + 3), .int 0, .ref (h.1 + 4), .ref (h.1 + 5), .ref (h.1 + 6), .int 0, .ref (h.1 + 7), .ref (h.1 + 8), .long 0, .long 0, .long 0, .long 0, .long 0, .long 0, .ref (h.1 + 9), .int (-1), .long (-1), .long (-1), .long (-1), .int (-1), .int 0, .ref (h.1 + 10), .ref (h.1 + 11), .ref (h.1 + 12), .int 0, .null, .null, .null, .null, .null, .null, .null, .null, .null, .int 0]) :: [.inl (0, 822, .inl fun _ => 0), .inl (0, 165222, .inl fun _ => 0), .inl (0, 16, .inl fun _ => 0), .inl (0, 2, .inl fun _ => 0), .inl (1, 2, .inr (.inl fun _ => 0)), .inl (0, 130, .inl fun _ => 0), .inl (1, 130, .inr (.inl fun _ => 0)), .inl (1, 130, .inr (.inl fun _ => 0)), .inl (1, 12, .inr (.inl fun _ => 0)), .inl (1, 14, .inr (.inl fun _ => 0)), .inl (1, 16384, .inr (.inl fun _ => 0)), .inl (0, 16384, .inl fun _ => 0)])) v h2 := by
  refine jx_T.step (pc' := 136) (st' := [_]) rfl rfl ?_
  refine jx_T.step (pc' := 138) (st' := [_, _]) rfl rfl ?_
  refine ha.newI rfl (by decide) (by decide) ?_
  refine ha.put rfl rfl rfl ?_
  refine jx_T.step (pc' := 144) (st' := [_]) rfl rfl ?_
  refine jx_T.step (pc' := 146) (st' := [_, _]) rfl rfl ?_
  refine ha.newI rfl (by decide) (by decide) ?_
  refine ha.put rfl rfl rfl ?_
  exact t
theorem ki_129_151 (h h2 : jx_H) (v : Option Value) (t : jx_T 129 167 [.ref (h.1 + ([] : List jx_E).length), .retAddr 0] [] (ha h (40 + 822 + 165222 + 16 + 2 + 2 + 130 + 130 + 130 + 12 + 14 + 16384 + 16384 + 48000 + 48000 + 48000 + 48000) (([] : List jx_E) ++ .inr (12, [.ref (h.1 + 1), .ref (h.1 + 2), .int 0, .int 0, .int 0, .ref (h.1 + 3), .int 0, .ref (h.1 + 4), .ref (h.1 + 5), .ref (h.1 + 6), .int 0, .ref (h.1 + 7), .ref (h.1 + 8), .long 0, .long 0, .long 0, .long 0, .long 0, .long 0, .ref (h.1 + 9), .int (-1), .long (-1), .long (-1), .long (-1), .int (-1), .int 0, .ref (h.1 + 10), .ref (h.1 + 11), .ref (h.1 + 12), .int 0, .ref (h.1 + 13), .ref (h.1 + 14), .ref (h.1 + 15), .ref (h.1 + 16), .null, .null, .null, .null, .null, .int 0]) :: [.inl (0, 822, .inl fun _ => 0), .inl (0, 165222, .inl fun _ => 0), .inl (0, 16, .inl fun _ => 0), .inl (0, 2, .inl fun _ => 0), .inl (1, 2, .inr (.inl fun _ => 0)), .inl (0, 130, .inl fun _ => 0), .inl (1, 130, .inr (.inl fun _ => 0)), .inl (1, 130, .inr (.inl fun _ => 0)), .inl (1, 12, .inr (.inl fun _ => 0)), .inl (1, 14, .inr (.inl fun _ => 0)), .inl (1, 16384, .inr (.inl fun _ => 0)), .inl (0, 16384, .inl fun _ => 0), .inl (0, 48000, .inl fun _ => 0), .inl (0, 48000, .inl fun _ => 0), .inl (0, 48000, .inl fun _ => 0), .inl (1, 48000, .inr (.inl fun _ => 0))])) v h2) : jx_T 129 151 [.ref (h.1 + ([] : List jx_E).length), .retAddr 0] [] (ha h (40 + 822 + 165222 + 16 + 2 + 2 + 130 + 130 + 130 + 12 + 14 + 16384 + 16384 + 48000 + 48000) (([] : List jx_E) ++ .inr (12, [.ref (h.1 + 1), .ref (h.1 + 2), .int 0, .int 0, .int 0, .ref (h.1 + 3), .int 0, .ref (h.1 + 4), .ref (h.1 + 5), .ref (h.1 + 6), .int 0, .ref (h.1 + 7), .ref (h.1 + 8), .long 0, .long 0, .long 0, .long 0, .long 0, .long 0, .ref (h.1 + 9), .int (-1), .long (-1), .long (-1), .long (-1), .int (-1), .int 0, .ref (h.1 + 10), .ref (h.1 + 11), .ref (h.1 + 12), .int 0, .ref (h.1 + 13), .ref (h.1 + 14), .null, .null, .null, .null, .null, .null, .null, .int 0]) :: [.inl (0, 822, .inl fun _ => 0), .inl (0, 165222, .inl fun _ => 0), .inl (0, 16, .inl fun _ => 0), .inl (0, 2, .inl fun _ => 0), .inl (1, 2, .inr (.inl fun _ => 0)), .inl (0, 130, .inl fun _ => 0), .inl (1, 130, .inr (.inl fun _ => 0)), .inl (1, 130, .inr (.inl fun _ => 0)), .inl (1, 12, .inr (.inl fun _ => 0)), .inl (1, 14, .inr (.inl fun _ => 0)), .inl (1, 16384, .inr (.inl fun _ => 0)), .inl (0, 16384, .inl fun _ => 0), .inl (0, 48000, .inl fun _ => 0), .inl (0, 48000, .inl fun _ => 0)])) v h2 := by
  refine jx_T.step (pc' := 152) (st' := [_]) rfl rfl ?_
  refine jx_T.step (pc' := 154) (st' := [_, _]) rfl rfl ?_
  refine ha.newI rfl (by decide) (by decide) ?_
  refine ha.put rfl rfl rfl ?_
  refine jx_T.step (pc' := 160) (st' := [_]) rfl rfl ?_
  refine jx_T.step (pc' := 162) (st' := [_, _]) rfl rfl ?_
  refine ha.newL rfl (by decide) ?_
  refine ha.put rfl rfl rfl ?_
  exact t
theorem ki_129_167 (h h2 : jx_H) (v : Option Value) (t : jx_T 129 185 [.ref (h.1 + ([] : List jx_E).length), .retAddr 0] [] (ha h (40 + 822 + 165222 + 16 + 2 + 2 + 130 + 130 + 130 + 12 + 14 + 16384 + 16384 + 48000 + 48000 + 48000 + 48000 + 2882 + 2882) (([] : List jx_E) ++ .inr (12, [.ref (h.1 + 1), .ref (h.1 + 2), .int 0, .int 0, .int 0, .ref (h.1 + 3), .int 0, .ref (h.1 + 4), .ref (h.1 + 5), .ref (h.1 + 6), .int 0, .ref (h.1 + 7), .ref (h.1 + 8), .long 0, .long 0, .long 0, .long 0, .long 0, .long 0, .ref (h.1 + 9), .int (-1), .long (-1), .long (-1), .long (-1), .int (-1), .int 0, .ref (h.1 + 10), .ref (h.1 + 11), .ref (h.1 + 12), .int 0, .ref (h.1 + 13), .ref (h.1 + 14), .ref (h.1 + 15), .ref (h.1 + 16), .ref (h.1 + 17), .ref (h.1 + 18), .null, .null, .null, .int 0]) :: [.inl (0, 822, .inl fun _ => 0), .inl (0, 165222, .inl fun _ => 0), .inl (0, 16, .inl fun _ => 0), .inl (0, 2, .inl fun _ => 0), .inl (1, 2, .inr (.inl fun _ => 0)), .inl (0, 130, .inl fun _ => 0), .inl (1, 130, .inr (.inl fun _ => 0)), .inl (1, 130, .inr (.inl fun _ => 0)), .inl (1, 12, .inr (.inl fun _ => 0)), .inl (1, 14, .inr (.inl fun _ => 0)), .inl (1, 16384, .inr (.inl fun _ => 0)), .inl (0, 16384, .inl fun _ => 0), .inl (0, 48000, .inl fun _ => 0), .inl (0, 48000, .inl fun _ => 0), .inl (0, 48000, .inl fun _ => 0), .inl (1, 48000, .inr (.inl fun _ => 0)), .inl (0, 2882, .inl fun _ => 0), .inl (1, 2882, .inr (.inl fun _ => 0))])) v h2) : jx_T 129 167 [.ref (h.1 + ([] : List jx_E).length), .retAddr 0] [] (ha h (40 + 822 + 165222 + 16 + 2 + 2 + 130 + 130 + 130 + 12 + 14 + 16384 + 16384 + 48000 + 48000 + 48000 + 48000) (([] : List jx_E) ++ .inr (12, [.ref (h.1 + 1), .ref (h.1 + 2), .int 0, .int 0, .int 0, .ref (h.1 + 3), .int 0, .ref (h.1 + 4), .ref (h.1 + 5), .ref (h.1 + 6), .int 0, .ref (h.1 + 7), .ref (h.1 + 8), .long 0, .long 0, .long 0, .long 0, .long 0, .long 0, .ref (h.1 + 9), .int (-1), .long (-1), .long (-1), .long (-1), .int (-1), .int 0, .ref (h.1 + 10), .ref (h.1 + 11), .ref (h.1 + 12), .int 0, .ref (h.1 + 13), .ref (h.1 + 14), .ref (h.1 + 15), .ref (h.1 + 16), .null, .null, .null, .null, .null, .int 0]) :: [.inl (0, 822, .inl fun _ => 0), .inl (0, 165222, .inl fun _ => 0), .inl (0, 16, .inl fun _ => 0), .inl (0, 2, .inl fun _ => 0), .inl (1, 2, .inr (.inl fun _ => 0)), .inl (0, 130, .inl fun _ => 0), .inl (1, 130, .inr (.inl fun _ => 0)), .inl (1, 130, .inr (.inl fun _ => 0)), .inl (1, 12, .inr (.inl fun _ => 0)), .inl (1, 14, .inr (.inl fun _ => 0)), .inl (1, 16384, .inr (.inl fun _ => 0)), .inl (0, 16384, .inl fun _ => 0), .inl (0, 48000, .inl fun _ => 0), .inl (0, 48000, .inl fun _ => 0), .inl (0, 48000, .inl fun _ => 0), .inl (1, 48000, .inr (.inl fun _ => 0))])) v h2 := by
  refine jx_T.step (pc' := 168) (st' := [_]) rfl rfl ?_
  refine jx_T.step (pc' := 171) (st' := [_, _]) rfl rfl ?_
  refine ha.newI rfl (by decide) (by decide) ?_
  refine ha.put rfl rfl rfl ?_
  refine jx_T.step (pc' := 177) (st' := [_]) rfl rfl ?_
  refine jx_T.step (pc' := 180) (st' := [_, _]) rfl rfl ?_
  refine ha.newL rfl (by decide) ?_
  refine ha.put rfl rfl rfl ?_
  exact t
theorem ki_129_185 (h h2 : jx_H) (v : Option Value) (t : jx_T 129 203 [.ref (h.1 + ([] : List jx_E).length), .retAddr 0] [] (ha h (40 + 822 + 165222 + 16 + 2 + 2 + 130 + 130 + 130 + 12 + 14 + 16384 + 16384 + 48000 + 48000 + 48000 + 48000 + 2882 + 2882 + 2882 + 2882) (([] : List jx_E) ++ .inr (12, [.ref (h.1 + 1), .ref (h.1 + 2), .int 0, .int 0, .int 0, .ref (h.1 + 3), .int 0, .ref (h.1 + 4), .ref (h.1 + 5), .ref (h.1 + 6), .int 0, .ref (h.1 + 7), .ref (h.1 + 8), .long 0, .long 0, .long 0, .long 0, .long 0, .long 0, .ref (h.1 + 9), .int (-1), .long (-1), .long (-1), .long (-1), .int (-1), .int 0, .ref (h.1 + 10), .ref (h.1 + 11), .ref (h.1 + 12), .int 0, .ref (h.1 + 13), .ref (h.1 + 14), .ref (h.1 + 15), .ref (h.1 + 16), .ref (h.1 + 17), .ref (h.1 + 18), .ref (h.1 + 19), .ref (h.1 + 20), .null, .int 0]) :: [.inl (0, 822, .inl fun _ => 0), .inl (0, 165222, .inl fun _ => 0), .inl (0, 16, .inl fun _ => 0), .inl (0, 2, .inl fun _ => 0), .inl (1, 2, .inr (.inl fun _ => 0)), .inl (0, 130, .inl fun _ => 0), .inl (1, 130, .inr (.inl fun _ => 0)), .inl (1, 130, .inr (.inl fun _ => 0)), .inl (1, 12, .inr (.inl fun _ => 0)), .inl (1, 14, .inr (.inl fun _ => 0)), .inl (1, 16384, .inr (.inl fun _ => 0)), .inl (0, 16384, .inl fun _ => 0), .inl (0, 48000, .inl fun _ => 0), .inl (0, 48000, .inl fun _ => 0), .inl (0, 48000, .inl fun _ => 0), .inl (1, 48000, .inr (.inl fun _ => 0)), .inl (0, 2882, .inl fun _ => 0), .inl (1, 2882, .inr (.inl fun _ => 0)), .inl (0, 2882, .inl fun _ => 0), .inl (3, 2882, .inl fun _ => 0)])) v h2) : jx_T 129 185 [.ref (h.1 + ([] : List jx_E).length), .retAddr 0] [] (ha h (40 + 822 + 165222 + 16 + 2 + 2 + 130 + 130 + 130 + 12 + 14 + 16384 + 16384 + 48000 + 48000 + 48000 + 48000 + 2882 + 2882) (([] : List jx_E) ++ .inr (12, [.ref (h.1 + 1), .ref (h.1 + 2), .int 0, .int 0, .int 0, .ref (h.1 + 3), .int 0, .ref (h.1 + 4), .ref (h.1 + 5), .ref (h.1 + 6), .int 0, .ref (h.1 + 7), .ref (h.1 + 8), .long 0, .long 0, .long 0, .long 0, .long 0, .long 0, .ref (h.1 + 9), .int (-1), .long (-1), .long (-1), .long (-1), .int (-1), .int 0, .ref (h.1 + 10), .ref (h.1 + 11), .ref (h.1 + 12), .int 0, .ref (h.1 + 13), .ref (h.1 + 14), .ref (h.1 + 15), .ref (h.1 + 16), .ref (h.1 + 17), .ref (h.1 + 18), .null, .null, .null, .int 0]) :: [.inl (0, 822, .inl fun _ => 0), .inl (0, 165222, .inl fun _ => 0), .inl (0, 16, .inl fun _ => 0), .inl (0, 2, .inl fun _ => 0), .inl (1, 2, .inr (.inl fun _ => 0)), .inl (0, 130, .inl fun _ => 0), .inl (1, 130, .inr (.inl fun _ => 0)), .inl (1, 130, .inr (.inl fun _ => 0)), .inl (1, 12, .inr (.inl fun _ => 0)), .inl (1, 14, .inr (.inl fun _ => 0)), .inl (1, 16384, .inr (.inl fun _ => 0)), .inl (0, 16384, .inl fun _ => 0), .inl (0, 48000, .inl fun _ => 0), .inl (0, 48000, .inl fun _ => 0), .inl (0, 48000, .inl fun _ => 0), .inl (1, 48000, .inr (.inl fun _ => 0)), .inl (0, 2882, .inl fun _ => 0), .inl (1, 2882, .inr (.inl fun _ => 0))])) v h2 := by
  refine jx_T.step (pc' := 186) (st' := [_]) rfl rfl ?_
  refine jx_T.step (pc' := 189) (st' := [_, _]) rfl rfl ?_
  refine ha.newI rfl (by decide) (by decide) ?_
  refine ha.put rfl rfl rfl ?_
  refine jx_T.step (pc' := 195) (st' := [_]) rfl rfl ?_
  refine jx_T.step (pc' := 198) (st' := [_, _]) rfl rfl ?_
  refine ha.newI rfl (by decide) (by decide) ?_
  refine ha.put rfl rfl rfl ?_
  exact t
theorem ki_129_203 (h h2 : jx_H) (v : Option Value) (t : jx_T 129 212 [.ref (h.1 + ([] : List jx_E).length), .retAddr 0] [] (ha h (40 + 822 + 165222 + 16 + 2 + 2 + 130 + 130 + 130 + 12 + 14 + 16384 + 16384 + 48000 + 48000 + 48000 + 48000 + 2882 + 2882 + 2882 + 2882 + 2882) (([] : List jx_E) ++ .inr (12, [.ref (h.1 + 1), .ref (h.1 + 2), .int 0, .int 0, .int 0, .ref (h.1 + 3), .int 0, .ref (h.1 + 4), .ref (h.1 + 5), .ref (h.1 + 6), .int 0, .ref (h.1 + 7), .ref (h.1 + 8), .long 0, .long 0, .long 0, .long 0, .long 0, .long 0, .ref (h.1 + 9), .int (-1), .long (-1), .long (-1), .long (-1), .int (-1), .int 0, .ref (h.1 + 10), .ref (h.1 + 11), .ref (h.1 + 12), .int 0, .ref (h.1 + 13), .ref (h.1 + 14), .ref (h.1 + 15), .ref (h.1 + 16), .ref (h.1 + 17), .ref (h.1 + 18), .ref (h.1 + 19), .ref (h.1 + 20), .ref (h.1 + 21), .int 0]) :: [.inl (0, 822, .inl fun _ => 0), .inl (0, 165222, .inl fun _ => 0), .inl (0, 16, .inl fun _ => 0), .inl (0, 2, .inl fun _ => 0), .inl (1, 2, .inr (.inl fun _ => 0)), .inl (0, 130, .inl fun _ => 0), .inl (1, 130, .inr (.inl fun _ => 0)), .inl (1, 130, .inr (.inl fun _ => 0)), .inl (1, 12, .inr (.inl fun _ => 0)), .inl (1, 14, .inr (.inl fun _ => 0)), .inl (1, 16384, .inr (.inl fun _ => 0)), .inl (0, 16384, .inl fun _ => 0), .inl (0, 48000, .inl fun _ => 0), .inl (0, 48000, .inl fun _ => 0), .inl (0, 48000, .inl fun _ => 0), .inl (1, 48000, .inr (.inl fun _ => 0)), .inl (0, 2882, .inl fun _ => 0), .inl (1, 2882, .inr (.inl fun _ => 0)), .inl (0, 2882, .inl fun _ => 0), .inl (3, 2882, .inl fun _ => 0), .inl (0, 2882, .inl fun _ => 0)])) v h2) : jx_T 129 203 [.ref (h.1 + ([] : List jx_E).length), .retAddr 0] [] (ha h (40 + 822 + 165222 + 16 + 2 + 2 + 130 + 130 + 130 + 12 + 14 + 16384 + 16384 + 48000 + 48000 + 48000 + 48000 + 2882 + 2882 + 2882 + 2882) (([] : List jx_E) ++ .inr (12, [.ref (h.1 + 1), .ref (h.1 + 2), .int 0, .int 0, .int 0, .ref (h.1 + 3), .int 0, .ref (h.1 + 4), .ref (h.1 + 5), .ref (h.1 + 6), .int 0, .ref (h.1 + 7), .ref (h.1 + 8), .long 0, .long 0, .long 0, .long 0, .long 0, .long 0, .ref (h.1 + 9), .int (-1), .long (-1), .long (-1), .long (-1), .int (-1), .int 0, .ref (h.1 + 10), .ref (h.1 + 11), .ref (h.1 + 12), .int 0, .ref (h.1 + 13), .ref (h.1 + 14), .ref (h.1 + 15), .ref (h.1 + 16), .ref (h.1 + 17), .ref (h.1 + 18), .ref (h.1 + 19), .ref (h.1 + 20), .null, .int 0]) :: [.inl (0, 822, .inl fun _ => 0), .inl (0, 165222, .inl fun _ => 0), .inl (0, 16, .inl fun _ => 0), .inl (0, 2, .inl fun _ => 0), .inl (1, 2, .inr (.inl fun _ => 0)), .inl (0, 130, .inl fun _ => 0), .inl (1, 130, .inr (.inl fun _ => 0)), .inl (1, 130, .inr (.inl fun _ => 0)), .inl (1, 12, .inr (.inl fun _ => 0)), .inl (1, 14, .inr (.inl fun _ => 0)), .inl (1, 16384, .inr (.inl fun _ => 0)), .inl (0, 16384, .inl fun _ => 0), .inl (0, 48000, .inl fun _ => 0), .inl (0, 48000, .inl fun _ => 0), .inl (0, 48000, .inl fun _ => 0), .inl (1, 48000, .inr (.inl fun _ => 0)), .inl (0, 2882, .inl fun _ => 0), .inl (1, 2882, .inr (.inl fun _ => 0)), .inl (0, 2882, .inl fun _ => 0), .inl (3, 2882, .inl fun _ => 0)])) v h2 := by
  refine jx_T.step (pc' := 204) (st' := [_]) rfl rfl ?_
  refine jx_T.step (pc' := 207) (st' := [_, _]) rfl rfl ?_
  refine ha.newI rfl (by decide) (by decide) ?_
  refine ha.put rfl rfl rfl ?_
  exact t
theorem ki_129 (h : jx_H) : ∃ hE, jx_T 129 0 (jx_ent 129 [.ref h.1]) [] (jx_new h (jx_dfl.getD 12 []).length (.inr (12, jx_dfl.getD 12 []))) none hE ∧ rf_At h.1 k1_R hE ∧ hE.1 = h.1 + 22 ∧ hE.2.1 = h.2.1 + kz129 ∧ ∀ a, (a < h.1 ∨ h.1 + 22 ≤ a) → hE.2.2 a = h.2.2 a := by
  obtain ⟨hE, t, a, f⟩ := ki_129b h.1 _ (k0_At h kz129)
  refine ⟨hE, ?_, a, f.1, f.2.1, fun a hq => ?_⟩
  · have e : jx_new h (jx_dfl.getD 12 []).length (.inr (12, jx_dfl.getD 12 [])) = ha h 40 (([] : List jx_E) ++ [.inr (12, jx_dfl.getD 12 [])]) := by
      have := ha_new h 0 [] 40 (.inr (12, jx_dfl.getD 12 []))
      rw [ha_nil] at this
      exact this
    rw [e]
    show jx_T 129 0 [.ref (h.1 + ([] : List jx_E).length), .retAddr 0] [] _ _ _
    refine ki_129_0 h _ _ ?_
    refine ki_129_29 h _ _ ?_
    refine ki_129_52 h _ _ ?_
    refine ki_129_78 h _ _ ?_
    refine ki_129_109 h _ _ ?_
    refine ki_129_135 h _ _ ?_
    refine ki_129_151 h _ _ ?_
    refine ki_129_167 h _ _ ?_
    refine ki_129_185 h _ _ ?_
    refine ki_129_203 h _ _ ?_
    exact t
  · rw [f.2.2 a hq]
    show (if h.1 ≤ a ∧ a < h.1 + 22 then _ else h.2.2 a) = h.2.2 a
    rw [if_neg (by omega)]
