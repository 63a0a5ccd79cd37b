theorem jx_o0 : ∀ pc r, jx_c0 pc = some r → jx_ok 0 pc r = true := by
  intro pc r hr
  have ht := jx_top (top := 52) (fun pc h => by unfold jx_c0; rw [h]; rfl) hr
  exact jx_all_spec jx_k0_0 pc r (by omega) (by omega) hr
theorem jx_o1 : ∀ pc r, jx_c1 pc = some r → jx_ok 1 pc r = true := by
  intro pc r hr
  have ht := jx_top (top := 16) (fun pc h => by unfold jx_c1; rw [h]; rfl) hr
  exact jx_all_spec jx_k1_0 pc r (by omega) (by omega) hr
theorem jx_o2 : ∀ pc r, jx_c2 pc = some r → jx_ok 2 pc r = true := by
  intro pc r hr
  have ht := jx_top (top := 54) (fun pc h => by unfold jx_c2; rw [h]; rfl) hr
  exact jx_all_spec jx_k2_0 pc r (by omega) (by omega) hr
theorem jx_o3 : ∀ pc r, jx_c3 pc = some r → jx_ok 3 pc r = true := by
  intro pc r hr
  have ht := jx_top (top := 81) (fun pc h => by unfold jx_c3; rw [h]; rfl) hr
  exact jx_all_spec jx_k3_0 pc r (by omega) (by omega) hr
theorem jx_o4 : ∀ pc r, jx_c4 pc = some r → jx_ok 4 pc r = true := by
  intro pc r hr
  have ht := jx_top (top := 89) (fun pc h => by unfold jx_c4; rw [h]; rfl) hr
  exact jx_all_spec jx_k4_0 pc r (by omega) (by omega) hr
theorem jx_o5 : ∀ pc r, jx_c5 pc = some r → jx_ok 5 pc r = true := by
  intro pc r hr
  have ht := jx_top (top := 138) (fun pc h => by unfold jx_c5; rw [h]; rfl) hr
  rcases Nat.lt_or_ge pc 120 with h0 | h0
  · exact jx_all_spec jx_k5_0 pc r (by omega) (by omega) hr
  exact jx_all_spec jx_k5_1 pc r (by omega) (by omega) hr
theorem jx_o6 : ∀ pc r, jx_c6 pc = some r → jx_ok 6 pc r = true := by
  intro pc r hr
  have ht := jx_top (top := 28) (fun pc h => by unfold jx_c6; rw [h]; rfl) hr
  exact jx_all_spec jx_k6_0 pc r (by omega) (by omega) hr
theorem jx_o7 : ∀ pc r, jx_c7 pc = some r → jx_ok 7 pc r = true := by
  intro pc r hr
  have ht := jx_top (top := 40) (fun pc h => by unfold jx_c7; rw [h]; rfl) hr
  exact jx_all_spec jx_k7_0 pc r (by omega) (by omega) hr
theorem jx_o8 : ∀ pc r, jx_c8 pc = some r → jx_ok 8 pc r = true := by
  intro pc r hr
  have ht := jx_top (top := 84) (fun pc h => by unfold jx_c8; rw [h]; rfl) hr
  exact jx_all_spec jx_k8_0 pc r (by omega) (by omega) hr
theorem jx_o9 : ∀ pc r, jx_c9 pc = some r → jx_ok 9 pc r = true := by
  intro pc r hr
  have ht := jx_top (top := 31) (fun pc h => by unfold jx_c9; rw [h]; rfl) hr
  exact jx_all_spec jx_k9_0 pc r (by omega) (by omega) hr
theorem jx_o10 : ∀ pc r, jx_c10 pc = some r → jx_ok 10 pc r = true := by
  intro pc r hr
  have ht := jx_top (top := 24) (fun pc h => by unfold jx_c10; rw [h]; rfl) hr
  exact jx_all_spec jx_k10_0 pc r (by omega) (by omega) hr
theorem jx_o11 : ∀ pc r, jx_c11 pc = some r → jx_ok 11 pc r = true := by
  intro pc r hr
  have ht := jx_top (top := 75) (fun pc h => by unfold jx_c11; rw [h]; rfl) hr
  exact jx_all_spec jx_k11_0 pc r (by omega) (by omega) hr
theorem jx_o12 : ∀ pc r, jx_c12 pc = some r → jx_ok 12 pc r = true := by
  intro pc r hr
  have ht := jx_top (top := 67) (fun pc h => by unfold jx_c12; rw [h]; rfl) hr
  exact jx_all_spec jx_k12_0 pc r (by omega) (by omega) hr
theorem jx_o13 : ∀ pc r, jx_c13 pc = some r → jx_ok 13 pc r = true := by
  intro pc r hr
  have ht := jx_top (top := 35) (fun pc h => by unfold jx_c13; rw [h]; rfl) hr
  exact jx_all_spec jx_k13_0 pc r (by omega) (by omega) hr
theorem jx_o14 : ∀ pc r, jx_c14 pc = some r → jx_ok 14 pc r = true := by
  intro pc r hr
  have ht := jx_top (top := 5) (fun pc h => by unfold jx_c14; rw [h]; rfl) hr
  exact jx_all_spec jx_k14_0 pc r (by omega) (by omega) hr
theorem jx_o15 : ∀ pc r, jx_c15 pc = some r → jx_ok 15 pc r = true := by
  intro pc r hr
  have ht := jx_top (top := 35) (fun pc h => by unfold jx_c15; rw [h]; rfl) hr
  exact jx_all_spec jx_k15_0 pc r (by omega) (by omega) hr
theorem jx_o16 : ∀ pc r, jx_c16 pc = some r → jx_ok 16 pc r = true := by
  intro pc r hr
  have ht := jx_top (top := 130) (fun pc h => by unfold jx_c16; rw [h]; rfl) hr
  rcases Nat.lt_or_ge pc 120 with h0 | h0
  · exact jx_all_spec jx_k16_0 pc r (by omega) (by omega) hr
  exact jx_all_spec jx_k16_1 pc r (by omega) (by omega) hr
theorem jx_o17 : ∀ pc r, jx_c17 pc = some r → jx_ok 17 pc r = true := by
  intro pc r hr
  have ht := jx_top (top := 44) (fun pc h => by unfold jx_c17; rw [h]; rfl) hr
  exact jx_all_spec jx_k17_0 pc r (by omega) (by omega) hr
theorem jx_o18 : ∀ pc r, jx_c18 pc = some r → jx_ok 18 pc r = true := by
  intro pc r hr
  have ht := jx_top (top := 62) (fun pc h => by unfold jx_c18; rw [h]; rfl) hr
  exact jx_all_spec jx_k18_0 pc r (by omega) (by omega) hr
theorem jx_o19 : ∀ pc r, jx_c19 pc = some r → jx_ok 19 pc r = true := by
  intro pc r hr
  have ht := jx_top (top := 75) (fun pc h => by unfold jx_c19; rw [h]; rfl) hr
  exact jx_all_spec jx_k19_0 pc r (by omega) (by omega) hr
theorem jx_o20 : ∀ pc r, jx_c20 pc = some r → jx_ok 20 pc r = true := by
  intro pc r hr
  have ht := jx_top (top := 183) (fun pc h => by unfold jx_c20; rw [h]; rfl) hr
  rcases Nat.lt_or_ge pc 120 with h0 | h0
  · exact jx_all_spec jx_k20_0 pc r (by omega) (by omega) hr
  exact jx_all_spec jx_k20_1 pc r (by omega) (by omega) hr
theorem jx_o21 : ∀ pc r, jx_c21 pc = some r → jx_ok 21 pc r = true := by
  intro pc r hr
  have ht := jx_top (top := 89) (fun pc h => by unfold jx_c21; rw [h]; rfl) hr
  exact jx_all_spec jx_k21_0 pc r (by omega) (by omega) hr
theorem jx_o22 : ∀ pc r, jx_c22 pc = some r → jx_ok 22 pc r = true := by
  intro pc r hr
  have ht := jx_top (top := 68) (fun pc h => by unfold jx_c22; rw [h]; rfl) hr
  exact jx_all_spec jx_k22_0 pc r (by omega) (by omega) hr
theorem jx_o23 : ∀ pc r, jx_c23 pc = some r → jx_ok 23 pc r = true := by
  intro pc r hr
  have ht := jx_top (top := 98) (fun pc h => by unfold jx_c23; rw [h]; rfl) hr
  exact jx_all_spec jx_k23_0 pc r (by omega) (by omega) hr
theorem jx_o24 : ∀ pc r, jx_c24 pc = some r → jx_ok 24 pc r = true := by
  intro pc r hr
  have ht := jx_top (top := 17) (fun pc h => by unfold jx_c24; rw [h]; rfl) hr
  exact jx_all_spec jx_k24_0 pc r (by omega) (by omega) hr
theorem jx_o25 : ∀ pc r, jx_c25 pc = some r → jx_ok 25 pc r = true := by
  intro pc r hr
  have ht := jx_top (top := 45) (fun pc h => by unfold jx_c25; rw [h]; rfl) hr
  exact jx_all_spec jx_k25_0 pc r (by omega) (by omega) hr
theorem jx_o26 : ∀ pc r, jx_c26 pc = some r → jx_ok 26 pc r = true := by
  intro pc r hr
  have ht := jx_top (top := 81) (fun pc h => by unfold jx_c26; rw [h]; rfl) hr
  exact jx_all_spec jx_k26_0 pc r (by omega) (by omega) hr
theorem jx_o27 : ∀ pc r, jx_c27 pc = some r → jx_ok 27 pc r = true := by
  intro pc r hr
  have ht := jx_top (top := 27) (fun pc h => by unfold jx_c27; rw [h]; rfl) hr
  exact jx_all_spec jx_k27_0 pc r (by omega) (by omega) hr
theorem jx_o28 : ∀ pc r, jx_c28 pc = some r → jx_ok 28 pc r = true := by
  intro pc r hr
  have ht := jx_top (top := 33) (fun pc h => by unfold jx_c28; rw [h]; rfl) hr
  exact jx_all_spec jx_k28_0 pc r (by omega) (by omega) hr
theorem jx_o29 : ∀ pc r, jx_c29 pc = some r → jx_ok 29 pc r = true := by
  intro pc r hr
  have ht := jx_top (top := 17) (fun pc h => by unfold jx_c29; rw [h]; rfl) hr
  exact jx_all_spec jx_k29_0 pc r (by omega) (by omega) hr
theorem jx_o30 : ∀ pc r, jx_c30 pc = some r → jx_ok 30 pc r = true := by
  intro pc r hr
  have ht := jx_top (top := 25) (fun pc h => by unfold jx_c30; rw [h]; rfl) hr
  exact jx_all_spec jx_k30_0 pc r (by omega) (by omega) hr
theorem jx_o31 : ∀ pc r, jx_c31 pc = some r → jx_ok 31 pc r = true := by
  intro pc r hr
  have ht := jx_top (top := 37) (fun pc h => by unfold jx_c31; rw [h]; rfl) hr
  exact jx_all_spec jx_k31_0 pc r (by omega) (by omega) hr
theorem jx_o32 : ∀ pc r, jx_c32 pc = some r → jx_ok 32 pc r = true := by
  intro pc r hr
  have ht := jx_top (top := 17) (fun pc h => by unfold jx_c32; rw [h]; rfl) hr
  exact jx_all_spec jx_k32_0 pc r (by omega) (by omega) hr
theorem jx_o33 : ∀ pc r, jx_c33 pc = some r → jx_ok 33 pc r = true := by
  intro pc r hr
  have ht := jx_top (top := 114) (fun pc h => by unfold jx_c33; rw [h]; rfl) hr
  exact jx_all_spec jx_k33_0 pc r (by omega) (by omega) hr
theorem jx_o34 : ∀ pc r, jx_c34 pc = some r → jx_ok 34 pc r = true := by
  intro pc r hr
  have ht := jx_top (top := 28) (fun pc h => by unfold jx_c34; rw [h]; rfl) hr
  exact jx_all_spec jx_k34_0 pc r (by omega) (by omega) hr
theorem jx_o35 : ∀ pc r, jx_c35 pc = some r → jx_ok 35 pc r = true := by
  intro pc r hr
  have ht := jx_top (top := 38) (fun pc h => by unfold jx_c35; rw [h]; rfl) hr
  exact jx_all_spec jx_k35_0 pc r (by omega) (by omega) hr
theorem jx_o36 : ∀ pc r, jx_c36 pc = some r → jx_ok 36 pc r = true := by
  intro pc r hr
  have ht := jx_top (top := 47) (fun pc h => by unfold jx_c36; rw [h]; rfl) hr
  exact jx_all_spec jx_k36_0 pc r (by omega) (by omega) hr
theorem jx_o37 : ∀ pc r, jx_c37 pc = some r → jx_ok 37 pc r = true := by
  intro pc r hr
  have ht := jx_top (top := 17) (fun pc h => by unfold jx_c37; rw [h]; rfl) hr
  exact jx_all_spec jx_k37_0 pc r (by omega) (by omega) hr
theorem jx_o38 : ∀ pc r, jx_c38 pc = some r → jx_ok 38 pc r = true := by
  intro pc r hr
  have ht := jx_top (top := 66) (fun pc h => by unfold jx_c38; rw [h]; rfl) hr
  exact jx_all_spec jx_k38_0 pc r (by omega) (by omega) hr
theorem jx_o39 : ∀ pc r, jx_c39 pc = some r → jx_ok 39 pc r = true := by
  intro pc r hr
  have ht := jx_top (top := 99) (fun pc h => by unfold jx_c39; rw [h]; rfl) hr
  exact jx_all_spec jx_k39_0 pc r (by omega) (by omega) hr
theorem jx_o40 : ∀ pc r, jx_c40 pc = some r → jx_ok 40 pc r = true := by
  intro pc r hr
  have ht := jx_top (top := 133) (fun pc h => by unfold jx_c40; rw [h]; rfl) hr
  rcases Nat.lt_or_ge pc 120 with h0 | h0
  · exact jx_all_spec jx_k40_0 pc r (by omega) (by omega) hr
  exact jx_all_spec jx_k40_1 pc r (by omega) (by omega) hr
theorem jx_o41 : ∀ pc r, jx_c41 pc = some r → jx_ok 41 pc r = true := by
  intro pc r hr
  have ht := jx_top (top := 57) (fun pc h => by unfold jx_c41; rw [h]; rfl) hr
  exact jx_all_spec jx_k41_0 pc r (by omega) (by omega) hr
theorem jx_o42 : ∀ pc r, jx_c42 pc = some r → jx_ok 42 pc r = true := by
  intro pc r hr
  have ht := jx_top (top := 100) (fun pc h => by unfold jx_c42; rw [h]; rfl) hr
  exact jx_all_spec jx_k42_0 pc r (by omega) (by omega) hr
theorem jx_o43 : ∀ pc r, jx_c43 pc = some r → jx_ok 43 pc r = true := by
  intro pc r hr
  have ht := jx_top (top := 40) (fun pc h => by unfold jx_c43; rw [h]; rfl) hr
  exact jx_all_spec jx_k43_0 pc r (by omega) (by omega) hr
theorem jx_o44 : ∀ pc r, jx_c44 pc = some r → jx_ok 44 pc r = true := by
  intro pc r hr
  have ht := jx_top (top := 175) (fun pc h => by unfold jx_c44; rw [h]; rfl) hr
  rcases Nat.lt_or_ge pc 120 with h0 | h0
  · exact jx_all_spec jx_k44_0 pc r (by omega) (by omega) hr
  exact jx_all_spec jx_k44_1 pc r (by omega) (by omega) hr
theorem jx_o45 : ∀ pc r, jx_c45 pc = some r → jx_ok 45 pc r = true := by
  intro pc r hr
  have ht := jx_top (top := 78) (fun pc h => by unfold jx_c45; rw [h]; rfl) hr
  exact jx_all_spec jx_k45_0 pc r (by omega) (by omega) hr
theorem jx_o46 : ∀ pc r, jx_c46 pc = some r → jx_ok 46 pc r = true := by
  intro pc r hr
  have ht := jx_top (top := 60) (fun pc h => by unfold jx_c46; rw [h]; rfl) hr
  exact jx_all_spec jx_k46_0 pc r (by omega) (by omega) hr
theorem jx_o47 : ∀ pc r, jx_c47 pc = some r → jx_ok 47 pc r = true := by
  intro pc r hr
  have ht := jx_top (top := 51) (fun pc h => by unfold jx_c47; rw [h]; rfl) hr
  exact jx_all_spec jx_k47_0 pc r (by omega) (by omega) hr
theorem jx_o48 : ∀ pc r, jx_c48 pc = some r → jx_ok 48 pc r = true := by
  intro pc r hr
  have ht := jx_top (top := 55) (fun pc h => by unfold jx_c48; rw [h]; rfl) hr
  exact jx_all_spec jx_k48_0 pc r (by omega) (by omega) hr
theorem jx_o49 : ∀ pc r, jx_c49 pc = some r → jx_ok 49 pc r = true := by
  intro pc r hr
  have ht := jx_top (top := 29) (fun pc h => by unfold jx_c49; rw [h]; rfl) hr
  exact jx_all_spec jx_k49_0 pc r (by omega) (by omega) hr
theorem jx_o50 : ∀ pc r, jx_c50 pc = some r → jx_ok 50 pc r = true := by
  intro pc r hr
  have ht := jx_top (top := 55) (fun pc h => by unfold jx_c50; rw [h]; rfl) hr
  exact jx_all_spec jx_k50_0 pc r (by omega) (by omega) hr
theorem jx_o51 : ∀ pc r, jx_c51 pc = some r → jx_ok 51 pc r = true := by
  intro pc r hr
  have ht := jx_top (top := 109) (fun pc h => by unfold jx_c51; rw [h]; rfl) hr
  exact jx_all_spec jx_k51_0 pc r (by omega) (by omega) hr
theorem jx_o52 : ∀ pc r, jx_c52 pc = some r → jx_ok 52 pc r = true := by
  intro pc r hr
  have ht := jx_top (top := 16) (fun pc h => by unfold jx_c52; rw [h]; rfl) hr
  exact jx_all_spec jx_k52_0 pc r (by omega) (by omega) hr
theorem jx_o53 : ∀ pc r, jx_c53 pc = some r → jx_ok 53 pc r = true := by
  intro pc r hr
  have ht := jx_top (top := 31) (fun pc h => by unfold jx_c53; rw [h]; rfl) hr
  exact jx_all_spec jx_k53_0 pc r (by omega) (by omega) hr
theorem jx_o54 : ∀ pc r, jx_c54 pc = some r → jx_ok 54 pc r = true := by
  intro pc r hr
  have ht := jx_top (top := 36) (fun pc h => by unfold jx_c54; rw [h]; rfl) hr
  exact jx_all_spec jx_k54_0 pc r (by omega) (by omega) hr
theorem jx_o55 : ∀ pc r, jx_c55 pc = some r → jx_ok 55 pc r = true := by
  intro pc r hr
  have ht := jx_top (top := 14) (fun pc h => by unfold jx_c55; rw [h]; rfl) hr
  exact jx_all_spec jx_k55_0 pc r (by omega) (by omega) hr
theorem jx_o56 : ∀ pc r, jx_c56 pc = some r → jx_ok 56 pc r = true := by
  intro pc r hr
  have ht := jx_top (top := 44) (fun pc h => by unfold jx_c56; rw [h]; rfl) hr
  exact jx_all_spec jx_k56_0 pc r (by omega) (by omega) hr
theorem jx_o57 : ∀ pc r, jx_c57 pc = some r → jx_ok 57 pc r = true := by
  intro pc r hr
  have ht := jx_top (top := 98) (fun pc h => by unfold jx_c57; rw [h]; rfl) hr
  exact jx_all_spec jx_k57_0 pc r (by omega) (by omega) hr
theorem jx_o58 : ∀ pc r, jx_c58 pc = some r → jx_ok 58 pc r = true := by
  intro pc r hr
  have ht := jx_top (top := 123) (fun pc h => by unfold jx_c58; rw [h]; rfl) hr
  rcases Nat.lt_or_ge pc 120 with h0 | h0
  · exact jx_all_spec jx_k58_0 pc r (by omega) (by omega) hr
  exact jx_all_spec jx_k58_1 pc r (by omega) (by omega) hr
theorem jx_o59 : ∀ pc r, jx_c59 pc = some r → jx_ok 59 pc r = true := by
  intro pc r hr
  have ht := jx_top (top := 100) (fun pc h => by unfold jx_c59; rw [h]; rfl) hr
  exact jx_all_spec jx_k59_0 pc r (by omega) (by omega) hr
theorem jx_o60 : ∀ pc r, jx_c60 pc = some r → jx_ok 60 pc r = true := by
  intro pc r hr
  have ht := jx_top (top := 86) (fun pc h => by unfold jx_c60; rw [h]; rfl) hr
  exact jx_all_spec jx_k60_0 pc r (by omega) (by omega) hr
theorem jx_o61 : ∀ pc r, jx_c61 pc = some r → jx_ok 61 pc r = true := by
  intro pc r hr
  have ht := jx_top (top := 84) (fun pc h => by unfold jx_c61; rw [h]; rfl) hr
  exact jx_all_spec jx_k61_0 pc r (by omega) (by omega) hr
theorem jx_o62 : ∀ pc r, jx_c62 pc = some r → jx_ok 62 pc r = true := by
  intro pc r hr
  have ht := jx_top (top := 161) (fun pc h => by unfold jx_c62; rw [h]; rfl) hr
  rcases Nat.lt_or_ge pc 120 with h0 | h0
  · exact jx_all_spec jx_k62_0 pc r (by omega) (by omega) hr
  exact jx_all_spec jx_k62_1 pc r (by omega) (by omega) hr
theorem jx_o63 : ∀ pc r, jx_c63 pc = some r → jx_ok 63 pc r = true := by
  intro pc r hr
  have ht := jx_top (top := 14) (fun pc h => by unfold jx_c63; rw [h]; rfl) hr
  exact jx_all_spec jx_k63_0 pc r (by omega) (by omega) hr
theorem jx_o64 : ∀ pc r, jx_c64 pc = some r → jx_ok 64 pc r = true := by
  intro pc r hr
  have ht := jx_top (top := 41) (fun pc h => by unfold jx_c64; rw [h]; rfl) hr
  exact jx_all_spec jx_k64_0 pc r (by omega) (by omega) hr
theorem jx_o65 : ∀ pc r, jx_c65 pc = some r → jx_ok 65 pc r = true := by
  intro pc r hr
  have ht := jx_top (top := 24) (fun pc h => by unfold jx_c65; rw [h]; rfl) hr
  exact jx_all_spec jx_k65_0 pc r (by omega) (by omega) hr
theorem jx_o66 : ∀ pc r, jx_c66 pc = some r → jx_ok 66 pc r = true := by
  intro pc r hr
  have ht := jx_top (top := 79) (fun pc h => by unfold jx_c66; rw [h]; rfl) hr
  exact jx_all_spec jx_k66_0 pc r (by omega) (by omega) hr
theorem jx_o67 : ∀ pc r, jx_c67 pc = some r → jx_ok 67 pc r = true := by
  intro pc r hr
  have ht := jx_top (top := 117) (fun pc h => by unfold jx_c67; rw [h]; rfl) hr
  exact jx_all_spec jx_k67_0 pc r (by omega) (by omega) hr
theorem jx_o68 : ∀ pc r, jx_c68 pc = some r → jx_ok 68 pc r = true := by
  intro pc r hr
  have ht := jx_top (top := 54) (fun pc h => by unfold jx_c68; rw [h]; rfl) hr
  exact jx_all_spec jx_k68_0 pc r (by omega) (by omega) hr
theorem jx_o69 : ∀ pc r, jx_c69 pc = some r → jx_ok 69 pc r = true := by
  intro pc r hr
  have ht := jx_top (top := 63) (fun pc h => by unfold jx_c69; rw [h]; rfl) hr
  exact jx_all_spec jx_k69_0 pc r (by omega) (by omega) hr
theorem jx_o70 : ∀ pc r, jx_c70 pc = some r → jx_ok 70 pc r = true := by
  intro pc r hr
  have ht := jx_top (top := 37) (fun pc h => by unfold jx_c70; rw [h]; rfl) hr
  exact jx_all_spec jx_k70_0 pc r (by omega) (by omega) hr
theorem jx_o71 : ∀ pc r, jx_c71 pc = some r → jx_ok 71 pc r = true := by
  intro pc r hr
  have ht := jx_top (top := 53) (fun pc h => by unfold jx_c71; rw [h]; rfl) hr
  exact jx_all_spec jx_k71_0 pc r (by omega) (by omega) hr
theorem jx_o72 : ∀ pc r, jx_c72 pc = some r → jx_ok 72 pc r = true := by
  intro pc r hr
  have ht := jx_top (top := 59) (fun pc h => by unfold jx_c72; rw [h]; rfl) hr
  exact jx_all_spec jx_k72_0 pc r (by omega) (by omega) hr
theorem jx_o73 : ∀ pc r, jx_c73 pc = some r → jx_ok 73 pc r = true := by
  intro pc r hr
  have ht := jx_top (top := 28) (fun pc h => by unfold jx_c73; rw [h]; rfl) hr
  exact jx_all_spec jx_k73_0 pc r (by omega) (by omega) hr
theorem jx_o74 : ∀ pc r, jx_c74 pc = some r → jx_ok 74 pc r = true := by
  intro pc r hr
  have ht := jx_top (top := 22) (fun pc h => by unfold jx_c74; rw [h]; rfl) hr
  exact jx_all_spec jx_k74_0 pc r (by omega) (by omega) hr
theorem jx_o75 : ∀ pc r, jx_c75 pc = some r → jx_ok 75 pc r = true := by
  intro pc r hr
  have ht := jx_top (top := 81) (fun pc h => by unfold jx_c75; rw [h]; rfl) hr
  exact jx_all_spec jx_k75_0 pc r (by omega) (by omega) hr
theorem jx_o76 : ∀ pc r, jx_c76 pc = some r → jx_ok 76 pc r = true := by
  intro pc r hr
  have ht := jx_top (top := 53) (fun pc h => by unfold jx_c76; rw [h]; rfl) hr
  exact jx_all_spec jx_k76_0 pc r (by omega) (by omega) hr
theorem jx_o77 : ∀ pc r, jx_c77 pc = some r → jx_ok 77 pc r = true := by
  intro pc r hr
  have ht := jx_top (top := 29) (fun pc h => by unfold jx_c77; rw [h]; rfl) hr
  exact jx_all_spec jx_k77_0 pc r (by omega) (by omega) hr
theorem jx_o78 : ∀ pc r, jx_c78 pc = some r → jx_ok 78 pc r = true := by
  intro pc r hr
  have ht := jx_top (top := 29) (fun pc h => by unfold jx_c78; rw [h]; rfl) hr
  exact jx_all_spec jx_k78_0 pc r (by omega) (by omega) hr
theorem jx_o79 : ∀ pc r, jx_c79 pc = some r → jx_ok 79 pc r = true := by
  intro pc r hr
  have ht := jx_top (top := 192) (fun pc h => by unfold jx_c79; rw [h]; rfl) hr
  rcases Nat.lt_or_ge pc 120 with h0 | h0
  · exact jx_all_spec jx_k79_0 pc r (by omega) (by omega) hr
  exact jx_all_spec jx_k79_1 pc r (by omega) (by omega) hr
theorem jx_o80 : ∀ pc r, jx_c80 pc = some r → jx_ok 80 pc r = true := by
  intro pc r hr
  have ht := jx_top (top := 21) (fun pc h => by unfold jx_c80; rw [h]; rfl) hr
  exact jx_all_spec jx_k80_0 pc r (by omega) (by omega) hr
theorem jx_o81 : ∀ pc r, jx_c81 pc = some r → jx_ok 81 pc r = true := by
  intro pc r hr
  have ht := jx_top (top := 25) (fun pc h => by unfold jx_c81; rw [h]; rfl) hr
  exact jx_all_spec jx_k81_0 pc r (by omega) (by omega) hr
theorem jx_o82 : ∀ pc r, jx_c82 pc = some r → jx_ok 82 pc r = true := by
  intro pc r hr
  have ht := jx_top (top := 20) (fun pc h => by unfold jx_c82; rw [h]; rfl) hr
  exact jx_all_spec jx_k82_0 pc r (by omega) (by omega) hr
theorem jx_o83 : ∀ pc r, jx_c83 pc = some r → jx_ok 83 pc r = true := by
  intro pc r hr
  have ht := jx_top (top := 22) (fun pc h => by unfold jx_c83; rw [h]; rfl) hr
  exact jx_all_spec jx_k83_0 pc r (by omega) (by omega) hr
theorem jx_o84 : ∀ pc r, jx_c84 pc = some r → jx_ok 84 pc r = true := by
  intro pc r hr
  have ht := jx_top (top := 56) (fun pc h => by unfold jx_c84; rw [h]; rfl) hr
  exact jx_all_spec jx_k84_0 pc r (by omega) (by omega) hr
theorem jx_o85 : ∀ pc r, jx_c85 pc = some r → jx_ok 85 pc r = true := by
  intro pc r hr
  have ht := jx_top (top := 119) (fun pc h => by unfold jx_c85; rw [h]; rfl) hr
  exact jx_all_spec jx_k85_0 pc r (by omega) (by omega) hr
theorem jx_o86 : ∀ pc r, jx_c86 pc = some r → jx_ok 86 pc r = true := by
  intro pc r hr
  have ht := jx_top (top := 23) (fun pc h => by unfold jx_c86; rw [h]; rfl) hr
  exact jx_all_spec jx_k86_0 pc r (by omega) (by omega) hr
theorem jx_o87 : ∀ pc r, jx_c87 pc = some r → jx_ok 87 pc r = true := by
  intro pc r hr
  have ht := jx_top (top := 31) (fun pc h => by unfold jx_c87; rw [h]; rfl) hr
  exact jx_all_spec jx_k87_0 pc r (by omega) (by omega) hr
theorem jx_o88 : ∀ pc r, jx_c88 pc = some r → jx_ok 88 pc r = true := by
  intro pc r hr
  have ht := jx_top (top := 118) (fun pc h => by unfold jx_c88; rw [h]; rfl) hr
  exact jx_all_spec jx_k88_0 pc r (by omega) (by omega) hr
theorem jx_o89 : ∀ pc r, jx_c89 pc = some r → jx_ok 89 pc r = true := by
  intro pc r hr
  have ht := jx_top (top := 56) (fun pc h => by unfold jx_c89; rw [h]; rfl) hr
  exact jx_all_spec jx_k89_0 pc r (by omega) (by omega) hr
theorem jx_o90 : ∀ pc r, jx_c90 pc = some r → jx_ok 90 pc r = true := by
  intro pc r hr
  have ht := jx_top (top := 15) (fun pc h => by unfold jx_c90; rw [h]; rfl) hr
  exact jx_all_spec jx_k90_0 pc r (by omega) (by omega) hr
theorem jx_o91 : ∀ pc r, jx_c91 pc = some r → jx_ok 91 pc r = true := by
  intro pc r hr
  have ht := jx_top (top := 18) (fun pc h => by unfold jx_c91; rw [h]; rfl) hr
  exact jx_all_spec jx_k91_0 pc r (by omega) (by omega) hr
theorem jx_o92 : ∀ pc r, jx_c92 pc = some r → jx_ok 92 pc r = true := by
  intro pc r hr
  have ht := jx_top (top := 62) (fun pc h => by unfold jx_c92; rw [h]; rfl) hr
  exact jx_all_spec jx_k92_0 pc r (by omega) (by omega) hr
theorem jx_o93 : ∀ pc r, jx_c93 pc = some r → jx_ok 93 pc r = true := by
  intro pc r hr
  have ht := jx_top (top := 71) (fun pc h => by unfold jx_c93; rw [h]; rfl) hr
  exact jx_all_spec jx_k93_0 pc r (by omega) (by omega) hr
theorem jx_o94 : ∀ pc r, jx_c94 pc = some r → jx_ok 94 pc r = true := by
  intro pc r hr
  have ht := jx_top (top := 25) (fun pc h => by unfold jx_c94; rw [h]; rfl) hr
  exact jx_all_spec jx_k94_0 pc r (by omega) (by omega) hr
theorem jx_o95 : ∀ pc r, jx_c95 pc = some r → jx_ok 95 pc r = true := by
  intro pc r hr
  have ht := jx_top (top := 149) (fun pc h => by unfold jx_c95; rw [h]; rfl) hr
  rcases Nat.lt_or_ge pc 120 with h0 | h0
  · exact jx_all_spec jx_k95_0 pc r (by omega) (by omega) hr
  exact jx_all_spec jx_k95_1 pc r (by omega) (by omega) hr
theorem jx_o96 : ∀ pc r, jx_c96 pc = some r → jx_ok 96 pc r = true := by
  intro pc r hr
  have ht := jx_top (top := 106) (fun pc h => by unfold jx_c96; rw [h]; rfl) hr
  exact jx_all_spec jx_k96_0 pc r (by omega) (by omega) hr
theorem jx_o97 : ∀ pc r, jx_c97 pc = some r → jx_ok 97 pc r = true := by
  intro pc r hr
  have ht := jx_top (top := 23) (fun pc h => by unfold jx_c97; rw [h]; rfl) hr
  exact jx_all_spec jx_k97_0 pc r (by omega) (by omega) hr
theorem jx_o98 : ∀ pc r, jx_c98 pc = some r → jx_ok 98 pc r = true := by
  intro pc r hr
  have ht := jx_top (top := 8) (fun pc h => by unfold jx_c98; rw [h]; rfl) hr
  exact jx_all_spec jx_k98_0 pc r (by omega) (by omega) hr
theorem jx_o99 : ∀ pc r, jx_c99 pc = some r → jx_ok 99 pc r = true := by
  intro pc r hr
  have ht := jx_top (top := 12) (fun pc h => by unfold jx_c99; rw [h]; rfl) hr
  exact jx_all_spec jx_k99_0 pc r (by omega) (by omega) hr
theorem jx_o100 : ∀ pc r, jx_c100 pc = some r → jx_ok 100 pc r = true := by
  intro pc r hr
  have ht := jx_top (top := 63) (fun pc h => by unfold jx_c100; rw [h]; rfl) hr
  exact jx_all_spec jx_k100_0 pc r (by omega) (by omega) hr
theorem jx_o101 : ∀ pc r, jx_c101 pc = some r → jx_ok 101 pc r = true := by
  intro pc r hr
  have ht := jx_top (top := 139) (fun pc h => by unfold jx_c101; rw [h]; rfl) hr
  rcases Nat.lt_or_ge pc 120 with h0 | h0
  · exact jx_all_spec jx_k101_0 pc r (by omega) (by omega) hr
  exact jx_all_spec jx_k101_1 pc r (by omega) (by omega) hr
theorem jx_o102 : ∀ pc r, jx_c102 pc = some r → jx_ok 102 pc r = true := by
  intro pc r hr
  have ht := jx_top (top := 69) (fun pc h => by unfold jx_c102; rw [h]; rfl) hr
  exact jx_all_spec jx_k102_0 pc r (by omega) (by omega) hr
theorem jx_o103 : ∀ pc r, jx_c103 pc = some r → jx_ok 103 pc r = true := by
  intro pc r hr
  have ht := jx_top (top := 25) (fun pc h => by unfold jx_c103; rw [h]; rfl) hr
  exact jx_all_spec jx_k103_0 pc r (by omega) (by omega) hr
theorem jx_o104 : ∀ pc r, jx_c104 pc = some r → jx_ok 104 pc r = true := by
  intro pc r hr
  have ht := jx_top (top := 65) (fun pc h => by unfold jx_c104; rw [h]; rfl) hr
  exact jx_all_spec jx_k104_0 pc r (by omega) (by omega) hr
theorem jx_o105 : ∀ pc r, jx_c105 pc = some r → jx_ok 105 pc r = true := by
  intro pc r hr
  have ht := jx_top (top := 136) (fun pc h => by unfold jx_c105; rw [h]; rfl) hr
  rcases Nat.lt_or_ge pc 120 with h0 | h0
  · exact jx_all_spec jx_k105_0 pc r (by omega) (by omega) hr
  exact jx_all_spec jx_k105_1 pc r (by omega) (by omega) hr
theorem jx_o106 : ∀ pc r, jx_c106 pc = some r → jx_ok 106 pc r = true := by
  intro pc r hr
  have ht := jx_top (top := 40) (fun pc h => by unfold jx_c106; rw [h]; rfl) hr
  exact jx_all_spec jx_k106_0 pc r (by omega) (by omega) hr
theorem jx_o107 : ∀ pc r, jx_c107 pc = some r → jx_ok 107 pc r = true := by
  intro pc r hr
  have ht := jx_top (top := 31) (fun pc h => by unfold jx_c107; rw [h]; rfl) hr
  exact jx_all_spec jx_k107_0 pc r (by omega) (by omega) hr
theorem jx_o108 : ∀ pc r, jx_c108 pc = some r → jx_ok 108 pc r = true := by
  intro pc r hr
  have ht := jx_top (top := 31) (fun pc h => by unfold jx_c108; rw [h]; rfl) hr
  exact jx_all_spec jx_k108_0 pc r (by omega) (by omega) hr
theorem jx_o109 : ∀ pc r, jx_c109 pc = some r → jx_ok 109 pc r = true := by
  intro pc r hr
  have ht := jx_top (top := 105) (fun pc h => by unfold jx_c109; rw [h]; rfl) hr
  exact jx_all_spec jx_k109_0 pc r (by omega) (by omega) hr
theorem jx_o110 : ∀ pc r, jx_c110 pc = some r → jx_ok 110 pc r = true := by
  intro pc r hr
  have ht := jx_top (top := 47) (fun pc h => by unfold jx_c110; rw [h]; rfl) hr
  exact jx_all_spec jx_k110_0 pc r (by omega) (by omega) hr
theorem jx_o111 : ∀ pc r, jx_c111 pc = some r → jx_ok 111 pc r = true := by
  intro pc r hr
  have ht := jx_top (top := 98) (fun pc h => by unfold jx_c111; rw [h]; rfl) hr
  exact jx_all_spec jx_k111_0 pc r (by omega) (by omega) hr
theorem jx_o112 : ∀ pc r, jx_c112 pc = some r → jx_ok 112 pc r = true := by
  intro pc r hr
  have ht := jx_top (top := 30) (fun pc h => by unfold jx_c112; rw [h]; rfl) hr
  exact jx_all_spec jx_k112_0 pc r (by omega) (by omega) hr
theorem jx_o113 : ∀ pc r, jx_c113 pc = some r → jx_ok 113 pc r = true := by
  intro pc r hr
  have ht := jx_top (top := 6) (fun pc h => by unfold jx_c113; rw [h]; rfl) hr
  exact jx_all_spec jx_k113_0 pc r (by omega) (by omega) hr
theorem jx_o114 : ∀ pc r, jx_c114 pc = some r → jx_ok 114 pc r = true := by
  intro pc r hr
  have ht := jx_top (top := 30) (fun pc h => by unfold jx_c114; rw [h]; rfl) hr
  exact jx_all_spec jx_k114_0 pc r (by omega) (by omega) hr
theorem jx_o115 : ∀ pc r, jx_c115 pc = some r → jx_ok 115 pc r = true := by
  intro pc r hr
  have ht := jx_top (top := 51) (fun pc h => by unfold jx_c115; rw [h]; rfl) hr
  exact jx_all_spec jx_k115_0 pc r (by omega) (by omega) hr
theorem jx_o116 : ∀ pc r, jx_c116 pc = some r → jx_ok 116 pc r = true := by
  intro pc r hr
  have ht := jx_top (top := 51) (fun pc h => by unfold jx_c116; rw [h]; rfl) hr
  exact jx_all_spec jx_k116_0 pc r (by omega) (by omega) hr
theorem jx_o117 : ∀ pc r, jx_c117 pc = some r → jx_ok 117 pc r = true := by
  intro pc r hr
  have ht := jx_top (top := 31) (fun pc h => by unfold jx_c117; rw [h]; rfl) hr
  exact jx_all_spec jx_k117_0 pc r (by omega) (by omega) hr
theorem jx_o118 : ∀ pc r, jx_c118 pc = some r → jx_ok 118 pc r = true := by
  intro pc r hr
  have ht := jx_top (top := 52) (fun pc h => by unfold jx_c118; rw [h]; rfl) hr
  exact jx_all_spec jx_k118_0 pc r (by omega) (by omega) hr
theorem jx_o119 : ∀ pc r, jx_c119 pc = some r → jx_ok 119 pc r = true := by
  intro pc r hr
  have ht := jx_top (top := 86) (fun pc h => by unfold jx_c119; rw [h]; rfl) hr
  exact jx_all_spec jx_k119_0 pc r (by omega) (by omega) hr
theorem jx_o120 : ∀ pc r, jx_c120 pc = some r → jx_ok 120 pc r = true := by
  intro pc r hr
  have ht := jx_top (top := 129) (fun pc h => by unfold jx_c120; rw [h]; rfl) hr
  rcases Nat.lt_or_ge pc 120 with h0 | h0
  · exact jx_all_spec jx_k120_0 pc r (by omega) (by omega) hr
  exact jx_all_spec jx_k120_1 pc r (by omega) (by omega) hr
theorem jx_o121 : ∀ pc r, jx_c121 pc = some r → jx_ok 121 pc r = true := by
  intro pc r hr
  have ht := jx_top (top := 21) (fun pc h => by unfold jx_c121; rw [h]; rfl) hr
  exact jx_all_spec jx_k121_0 pc r (by omega) (by omega) hr
theorem jx_o122 : ∀ pc r, jx_c122 pc = some r → jx_ok 122 pc r = true := by
  intro pc r hr
  have ht := jx_top (top := 76) (fun pc h => by unfold jx_c122; rw [h]; rfl) hr
  exact jx_all_spec jx_k122_0 pc r (by omega) (by omega) hr
theorem jx_o123 : ∀ pc r, jx_c123 pc = some r → jx_ok 123 pc r = true := by
  intro pc r hr
  have ht := jx_top (top := 34) (fun pc h => by unfold jx_c123; rw [h]; rfl) hr
  exact jx_all_spec jx_k123_0 pc r (by omega) (by omega) hr
theorem jx_o124 : ∀ pc r, jx_c124 pc = some r → jx_ok 124 pc r = true := by
  intro pc r hr
  have ht := jx_top (top := 132) (fun pc h => by unfold jx_c124; rw [h]; rfl) hr
  rcases Nat.lt_or_ge pc 120 with h0 | h0
  · exact jx_all_spec jx_k124_0 pc r (by omega) (by omega) hr
  exact jx_all_spec jx_k124_1 pc r (by omega) (by omega) hr
theorem jx_o125 : ∀ pc r, jx_c125 pc = some r → jx_ok 125 pc r = true := by
  intro pc r hr
  have ht := jx_top (top := 147) (fun pc h => by unfold jx_c125; rw [h]; rfl) hr
  rcases Nat.lt_or_ge pc 120 with h0 | h0
  · exact jx_all_spec jx_k125_0 pc r (by omega) (by omega) hr
  exact jx_all_spec jx_k125_1 pc r (by omega) (by omega) hr
theorem jx_o126 : ∀ pc r, jx_c126 pc = some r → jx_ok 126 pc r = true := by
  intro pc r hr
  have ht := jx_top (top := 152) (fun pc h => by unfold jx_c126; rw [h]; rfl) hr
  rcases Nat.lt_or_ge pc 120 with h0 | h0
  · exact jx_all_spec jx_k126_0 pc r (by omega) (by omega) hr
  exact jx_all_spec jx_k126_1 pc r (by omega) (by omega) hr
theorem jx_o127 : ∀ pc r, jx_c127 pc = some r → jx_ok 127 pc r = true := by
  intro pc r hr
  have ht := jx_top (top := 10) (fun pc h => by unfold jx_c127; rw [h]; rfl) hr
  exact jx_all_spec jx_k127_0 pc r (by omega) (by omega) hr
theorem jx_o128 : ∀ pc r, jx_c128 pc = some r → jx_ok 128 pc r = true := by
  intro pc r hr
  have ht := jx_top (top := 83) (fun pc h => by unfold jx_c128; rw [h]; rfl) hr
  exact jx_all_spec jx_k128_0 pc r (by omega) (by omega) hr
theorem jx_o129 : ∀ pc r, jx_c129 pc = some r → jx_ok 129 pc r = true := by
  intro pc r hr
  have ht := jx_top (top := 252) (fun pc h => by unfold jx_c129; rw [h]; rfl) hr
  rcases Nat.lt_or_ge pc 120 with h0 | h0
  · exact jx_all_spec jx_k129_0 pc r (by omega) (by omega) hr
  rcases Nat.lt_or_ge pc 240 with h1 | h1
  · exact jx_all_spec jx_k129_1 pc r (by omega) (by omega) hr
  exact jx_all_spec jx_k129_2 pc r (by omega) (by omega) hr
theorem jx_o130 : ∀ pc r, jx_c130 pc = some r → jx_ok 130 pc r = true := by
  intro pc r hr
  have ht := jx_top (top := 47) (fun pc h => by unfold jx_c130; rw [h]; rfl) hr
  exact jx_all_spec jx_k130_0 pc r (by omega) (by omega) hr
theorem jx_o131 : ∀ pc r, jx_c131 pc = some r → jx_ok 131 pc r = true := by
  intro pc r hr
  have ht := jx_top (top := 35) (fun pc h => by unfold jx_c131; rw [h]; rfl) hr
  exact jx_all_spec jx_k131_0 pc r (by omega) (by omega) hr
theorem jx_o132 : ∀ pc r, jx_c132 pc = some r → jx_ok 132 pc r = true := by
  intro pc r hr
  have ht := jx_top (top := 47) (fun pc h => by unfold jx_c132; rw [h]; rfl) hr
  exact jx_all_spec jx_k132_0 pc r (by omega) (by omega) hr
theorem jx_o133 : ∀ pc r, jx_c133 pc = some r → jx_ok 133 pc r = true := by
  intro pc r hr
  have ht := jx_top (top := 35) (fun pc h => by unfold jx_c133; rw [h]; rfl) hr
  exact jx_all_spec jx_k133_0 pc r (by omega) (by omega) hr
theorem jx_o134 : ∀ pc r, jx_c134 pc = some r → jx_ok 134 pc r = true := by
  intro pc r hr
  have ht := jx_top (top := 105) (fun pc h => by unfold jx_c134; rw [h]; rfl) hr
  exact jx_all_spec jx_k134_0 pc r (by omega) (by omega) hr
theorem jx_o135 : ∀ pc r, jx_c135 pc = some r → jx_ok 135 pc r = true := by
  intro pc r hr
  have ht := jx_top (top := 9) (fun pc h => by unfold jx_c135; rw [h]; rfl) hr
  exact jx_all_spec jx_k135_0 pc r (by omega) (by omega) hr
theorem jx_o136 : ∀ pc r, jx_c136 pc = some r → jx_ok 136 pc r = true := by
  intro pc r hr
  have ht := jx_top (top := 18) (fun pc h => by unfold jx_c136; rw [h]; rfl) hr
  exact jx_all_spec jx_k136_0 pc r (by omega) (by omega) hr
theorem jx_o137 : ∀ pc r, jx_c137 pc = some r → jx_ok 137 pc r = true := by
  intro pc r hr
  have ht := jx_top (top := 47) (fun pc h => by unfold jx_c137; rw [h]; rfl) hr
  exact jx_all_spec jx_k137_0 pc r (by omega) (by omega) hr
theorem jx_o138 : ∀ pc r, jx_c138 pc = some r → jx_ok 138 pc r = true := by
  intro pc r hr
  have ht := jx_top (top := 93) (fun pc h => by unfold jx_c138; rw [h]; rfl) hr
  exact jx_all_spec jx_k138_0 pc r (by omega) (by omega) hr
theorem jx_o139 : ∀ pc r, jx_c139 pc = some r → jx_ok 139 pc r = true := by
  intro pc r hr
  have ht := jx_top (top := 13) (fun pc h => by unfold jx_c139; rw [h]; rfl) hr
  exact jx_all_spec jx_k139_0 pc r (by omega) (by omega) hr
theorem jx_o140 : ∀ pc r, jx_c140 pc = some r → jx_ok 140 pc r = true := by
  intro pc r hr
  have ht := jx_top (top := 28) (fun pc h => by unfold jx_c140; rw [h]; rfl) hr
  exact jx_all_spec jx_k140_0 pc r (by omega) (by omega) hr
theorem jx_o141 : ∀ pc r, jx_c141 pc = some r → jx_ok 141 pc r = true := by
  intro pc r hr
  have ht := jx_top (top := 28) (fun pc h => by unfold jx_c141; rw [h]; rfl) hr
  exact jx_all_spec jx_k141_0 pc r (by omega) (by omega) hr
theorem jx_o142 : ∀ pc r, jx_c142 pc = some r → jx_ok 142 pc r = true := by
  intro pc r hr
  have ht := jx_top (top := 196) (fun pc h => by unfold jx_c142; rw [h]; rfl) hr
  rcases Nat.lt_or_ge pc 120 with h0 | h0
  · exact jx_all_spec jx_k142_0 pc r (by omega) (by omega) hr
  exact jx_all_spec jx_k142_1 pc r (by omega) (by omega) hr
theorem jx_o143 : ∀ pc r, jx_c143 pc = some r → jx_ok 143 pc r = true := by
  intro pc r hr
  have ht := jx_top (top := 46) (fun pc h => by unfold jx_c143; rw [h]; rfl) hr
  exact jx_all_spec jx_k143_0 pc r (by omega) (by omega) hr
theorem jx_o144 : ∀ pc r, jx_c144 pc = some r → jx_ok 144 pc r = true := by
  intro pc r hr
  have ht := jx_top (top := 140) (fun pc h => by unfold jx_c144; rw [h]; rfl) hr
  rcases Nat.lt_or_ge pc 120 with h0 | h0
  · exact jx_all_spec jx_k144_0 pc r (by omega) (by omega) hr
  exact jx_all_spec jx_k144_1 pc r (by omega) (by omega) hr
theorem jx_o145 : ∀ pc r, jx_c145 pc = some r → jx_ok 145 pc r = true := by
  intro pc r hr
  have ht := jx_top (top := 89) (fun pc h => by unfold jx_c145; rw [h]; rfl) hr
  exact jx_all_spec jx_k145_0 pc r (by omega) (by omega) hr
theorem jx_o146 : ∀ pc r, jx_c146 pc = some r → jx_ok 146 pc r = true := by
  intro pc r hr
  have ht := jx_top (top := 14) (fun pc h => by unfold jx_c146; rw [h]; rfl) hr
  exact jx_all_spec jx_k146_0 pc r (by omega) (by omega) hr
theorem jx_o147 : ∀ pc r, jx_c147 pc = some r → jx_ok 147 pc r = true := by
  intro pc r hr
  have ht := jx_top (top := 79) (fun pc h => by unfold jx_c147; rw [h]; rfl) hr
  exact jx_all_spec jx_k147_0 pc r (by omega) (by omega) hr
theorem jx_o148 : ∀ pc r, jx_c148 pc = some r → jx_ok 148 pc r = true := by
  intro pc r hr
  have ht := jx_top (top := 278) (fun pc h => by unfold jx_c148; rw [h]; rfl) hr
  rcases Nat.lt_or_ge pc 120 with h0 | h0
  · exact jx_all_spec jx_k148_0 pc r (by omega) (by omega) hr
  rcases Nat.lt_or_ge pc 240 with h1 | h1
  · exact jx_all_spec jx_k148_1 pc r (by omega) (by omega) hr
  exact jx_all_spec jx_k148_2 pc r (by omega) (by omega) hr
theorem jx_o149 : ∀ pc r, jx_c149 pc = some r → jx_ok 149 pc r = true := by
  intro pc r hr
  have ht := jx_top (top := 71) (fun pc h => by unfold jx_c149; rw [h]; rfl) hr
  exact jx_all_spec jx_k149_0 pc r (by omega) (by omega) hr
theorem jx_o150 : ∀ pc r, jx_c150 pc = some r → jx_ok 150 pc r = true := by
  intro pc r hr
  have ht := jx_top (top := 25) (fun pc h => by unfold jx_c150; rw [h]; rfl) hr
  exact jx_all_spec jx_k150_0 pc r (by omega) (by omega) hr
theorem jx_o151 : ∀ pc r, jx_c151 pc = some r → jx_ok 151 pc r = true := by
  intro pc r hr
  have ht := jx_top (top := 68) (fun pc h => by unfold jx_c151; rw [h]; rfl) hr
  exact jx_all_spec jx_k151_0 pc r (by omega) (by omega) hr
theorem jx_o152 : ∀ pc r, jx_c152 pc = some r → jx_ok 152 pc r = true := by
  intro pc r hr
  have ht := jx_top (top := 15) (fun pc h => by unfold jx_c152; rw [h]; rfl) hr
  exact jx_all_spec jx_k152_0 pc r (by omega) (by omega) hr
theorem jx_o153 : ∀ pc r, jx_c153 pc = some r → jx_ok 153 pc r = true := by
  intro pc r hr
  have ht := jx_top (top := 13) (fun pc h => by unfold jx_c153; rw [h]; rfl) hr
  exact jx_all_spec jx_k153_0 pc r (by omega) (by omega) hr
theorem jx_o154 : ∀ pc r, jx_c154 pc = some r → jx_ok 154 pc r = true := by
  intro pc r hr
  have ht := jx_top (top := 119) (fun pc h => by unfold jx_c154; rw [h]; rfl) hr
  exact jx_all_spec jx_k154_0 pc r (by omega) (by omega) hr
theorem jx_o155 : ∀ pc r, jx_c155 pc = some r → jx_ok 155 pc r = true := by
  intro pc r hr
  have ht := jx_top (top := 65) (fun pc h => by unfold jx_c155; rw [h]; rfl) hr
  exact jx_all_spec jx_k155_0 pc r (by omega) (by omega) hr
theorem jx_o156 : ∀ pc r, jx_c156 pc = some r → jx_ok 156 pc r = true := by
  intro pc r hr
  have ht := jx_top (top := 64) (fun pc h => by unfold jx_c156; rw [h]; rfl) hr
  exact jx_all_spec jx_k156_0 pc r (by omega) (by omega) hr
theorem jx_o157 : ∀ pc r, jx_c157 pc = some r → jx_ok 157 pc r = true := by
  intro pc r hr
  have ht := jx_top (top := 18) (fun pc h => by unfold jx_c157; rw [h]; rfl) hr
  exact jx_all_spec jx_k157_0 pc r (by omega) (by omega) hr
theorem jx_o158 : ∀ pc r, jx_c158 pc = some r → jx_ok 158 pc r = true := by
  intro pc r hr
  have ht := jx_top (top := 9) (fun pc h => by unfold jx_c158; rw [h]; rfl) hr
  exact jx_all_spec jx_k158_0 pc r (by omega) (by omega) hr
theorem jx_o159 : ∀ pc r, jx_c159 pc = some r → jx_ok 159 pc r = true := by
  intro pc r hr
  have ht := jx_top (top := 111) (fun pc h => by unfold jx_c159; rw [h]; rfl) hr
  exact jx_all_spec jx_k159_0 pc r (by omega) (by omega) hr
theorem jx_o160 : ∀ pc r, jx_c160 pc = some r → jx_ok 160 pc r = true := by
  intro pc r hr
  have ht := jx_top (top := 63) (fun pc h => by unfold jx_c160; rw [h]; rfl) hr
  exact jx_all_spec jx_k160_0 pc r (by omega) (by omega) hr
theorem jx_o161 : ∀ pc r, jx_c161 pc = some r → jx_ok 161 pc r = true := by
  intro pc r hr
  have ht := jx_top (top := 30) (fun pc h => by unfold jx_c161; rw [h]; rfl) hr
  exact jx_all_spec jx_k161_0 pc r (by omega) (by omega) hr
theorem jx_o162 : ∀ pc r, jx_c162 pc = some r → jx_ok 162 pc r = true := by
  intro pc r hr
  have ht := jx_top (top := 84) (fun pc h => by unfold jx_c162; rw [h]; rfl) hr
  exact jx_all_spec jx_k162_0 pc r (by omega) (by omega) hr
theorem jx_o163 : ∀ pc r, jx_c163 pc = some r → jx_ok 163 pc r = true := by
  intro pc r hr
  have ht := jx_top (top := 22) (fun pc h => by unfold jx_c163; rw [h]; rfl) hr
  exact jx_all_spec jx_k163_0 pc r (by omega) (by omega) hr
theorem jx_o164 : ∀ pc r, jx_c164 pc = some r → jx_ok 164 pc r = true := by
  intro pc r hr
  have ht := jx_top (top := 92) (fun pc h => by unfold jx_c164; rw [h]; rfl) hr
  exact jx_all_spec jx_k164_0 pc r (by omega) (by omega) hr
theorem jx_o165 : ∀ pc r, jx_c165 pc = some r → jx_ok 165 pc r = true := by
  intro pc r hr
  have ht := jx_top (top := 82) (fun pc h => by unfold jx_c165; rw [h]; rfl) hr
  exact jx_all_spec jx_k165_0 pc r (by omega) (by omega) hr
theorem jx_o166 : ∀ pc r, jx_c166 pc = some r → jx_ok 166 pc r = true := by
  intro pc r hr
  have ht := jx_top (top := 177) (fun pc h => by unfold jx_c166; rw [h]; rfl) hr
  rcases Nat.lt_or_ge pc 120 with h0 | h0
  · exact jx_all_spec jx_k166_0 pc r (by omega) (by omega) hr
  exact jx_all_spec jx_k166_1 pc r (by omega) (by omega) hr
theorem jx_o167 : ∀ pc r, jx_c167 pc = some r → jx_ok 167 pc r = true := by
  intro pc r hr
  have ht := jx_top (top := 138) (fun pc h => by unfold jx_c167; rw [h]; rfl) hr
  rcases Nat.lt_or_ge pc 120 with h0 | h0
  · exact jx_all_spec jx_k167_0 pc r (by omega) (by omega) hr
  exact jx_all_spec jx_k167_1 pc r (by omega) (by omega) hr
theorem jx_o168 : ∀ pc r, jx_c168 pc = some r → jx_ok 168 pc r = true := by
  intro pc r hr
  have ht := jx_top (top := 41) (fun pc h => by unfold jx_c168; rw [h]; rfl) hr
  exact jx_all_spec jx_k168_0 pc r (by omega) (by omega) hr
theorem jx_o169 : ∀ pc r, jx_c169 pc = some r → jx_ok 169 pc r = true := by
  intro pc r hr
  have ht := jx_top (top := 18) (fun pc h => by unfold jx_c169; rw [h]; rfl) hr
  exact jx_all_spec jx_k169_0 pc r (by omega) (by omega) hr
theorem jx_o170 : ∀ pc r, jx_c170 pc = some r → jx_ok 170 pc r = true := by
  intro pc r hr
  have ht := jx_top (top := 40) (fun pc h => by unfold jx_c170; rw [h]; rfl) hr
  exact jx_all_spec jx_k170_0 pc r (by omega) (by omega) hr
theorem jx_o171 : ∀ pc r, jx_c171 pc = some r → jx_ok 171 pc r = true := by
  intro pc r hr
  have ht := jx_top (top := 47) (fun pc h => by unfold jx_c171; rw [h]; rfl) hr
  exact jx_all_spec jx_k171_0 pc r (by omega) (by omega) hr
theorem jx_o172 : ∀ pc r, jx_c172 pc = some r → jx_ok 172 pc r = true := by
  intro pc r hr
  have ht := jx_top (top := 30) (fun pc h => by unfold jx_c172; rw [h]; rfl) hr
  exact jx_all_spec jx_k172_0 pc r (by omega) (by omega) hr
theorem jx_o173 : ∀ pc r, jx_c173 pc = some r → jx_ok 173 pc r = true := by
  intro pc r hr
  have ht := jx_top (top := 53) (fun pc h => by unfold jx_c173; rw [h]; rfl) hr
  exact jx_all_spec jx_k173_0 pc r (by omega) (by omega) hr
theorem jx_o174 : ∀ pc r, jx_c174 pc = some r → jx_ok 174 pc r = true := by
  intro pc r hr
  have ht := jx_top (top := 66) (fun pc h => by unfold jx_c174; rw [h]; rfl) hr
  exact jx_all_spec jx_k174_0 pc r (by omega) (by omega) hr
theorem jx_o175 : ∀ pc r, jx_c175 pc = some r → jx_ok 175 pc r = true := by
  intro pc r hr
  have ht := jx_top (top := 78) (fun pc h => by unfold jx_c175; rw [h]; rfl) hr
  exact jx_all_spec jx_k175_0 pc r (by omega) (by omega) hr
theorem jx_o176 : ∀ pc r, jx_c176 pc = some r → jx_ok 176 pc r = true := by
  intro pc r hr
  have ht := jx_top (top := 45) (fun pc h => by unfold jx_c176; rw [h]; rfl) hr
  exact jx_all_spec jx_k176_0 pc r (by omega) (by omega) hr
theorem jx_o177 : ∀ pc r, jx_c177 pc = some r → jx_ok 177 pc r = true := by
  intro pc r hr
  have ht := jx_top (top := 165) (fun pc h => by unfold jx_c177; rw [h]; rfl) hr
  rcases Nat.lt_or_ge pc 120 with h0 | h0
  · exact jx_all_spec jx_k177_0 pc r (by omega) (by omega) hr
  exact jx_all_spec jx_k177_1 pc r (by omega) (by omega) hr
theorem jx_o178 : ∀ pc r, jx_c178 pc = some r → jx_ok 178 pc r = true := by
  intro pc r hr
  have ht := jx_top (top := 9) (fun pc h => by unfold jx_c178; rw [h]; rfl) hr
  exact jx_all_spec jx_k178_0 pc r (by omega) (by omega) hr
theorem jx_o179 : ∀ pc r, jx_c179 pc = some r → jx_ok 179 pc r = true := by
  intro pc r hr
  have ht := jx_top (top := 13) (fun pc h => by unfold jx_c179; rw [h]; rfl) hr
  exact jx_all_spec jx_k179_0 pc r (by omega) (by omega) hr
theorem jx_o180 : ∀ pc r, jx_c180 pc = some r → jx_ok 180 pc r = true := by
  intro pc r hr
  have ht := jx_top (top := 28) (fun pc h => by unfold jx_c180; rw [h]; rfl) hr
  exact jx_all_spec jx_k180_0 pc r (by omega) (by omega) hr
theorem jx_o181 : ∀ pc r, jx_c181 pc = some r → jx_ok 181 pc r = true := by
  intro pc r hr
  have ht := jx_top (top := 166) (fun pc h => by unfold jx_c181; rw [h]; rfl) hr
  rcases Nat.lt_or_ge pc 120 with h0 | h0
  · exact jx_all_spec jx_k181_0 pc r (by omega) (by omega) hr
  exact jx_all_spec jx_k181_1 pc r (by omega) (by omega) hr
theorem jx_o182 : ∀ pc r, jx_c182 pc = some r → jx_ok 182 pc r = true := by
  intro pc r hr
  have ht := jx_top (top := 187) (fun pc h => by unfold jx_c182; rw [h]; rfl) hr
  rcases Nat.lt_or_ge pc 120 with h0 | h0
  · exact jx_all_spec jx_k182_0 pc r (by omega) (by omega) hr
  exact jx_all_spec jx_k182_1 pc r (by omega) (by omega) hr
theorem jx_o183 : ∀ pc r, jx_c183 pc = some r → jx_ok 183 pc r = true := by
  intro pc r hr
  have ht := jx_top (top := 21) (fun pc h => by unfold jx_c183; rw [h]; rfl) hr
  exact jx_all_spec jx_k183_0 pc r (by omega) (by omega) hr
theorem jx_o184 : ∀ pc r, jx_c184 pc = some r → jx_ok 184 pc r = true := by
  intro pc r hr
  have ht := jx_top (top := 204) (fun pc h => by unfold jx_c184; rw [h]; rfl) hr
  rcases Nat.lt_or_ge pc 120 with h0 | h0
  · exact jx_all_spec jx_k184_0 pc r (by omega) (by omega) hr
  exact jx_all_spec jx_k184_1 pc r (by omega) (by omega) hr
theorem jx_o185 : ∀ pc r, jx_c185 pc = some r → jx_ok 185 pc r = true := by
  intro pc r hr
  have ht := jx_top (top := 223) (fun pc h => by unfold jx_c185; rw [h]; rfl) hr
  rcases Nat.lt_or_ge pc 120 with h0 | h0
  · exact jx_all_spec jx_k185_0 pc r (by omega) (by omega) hr
  exact jx_all_spec jx_k185_1 pc r (by omega) (by omega) hr
theorem jx_o186 : ∀ pc r, jx_c186 pc = some r → jx_ok 186 pc r = true := by
  intro pc r hr
  have ht := jx_top (top := 56) (fun pc h => by unfold jx_c186; rw [h]; rfl) hr
  exact jx_all_spec jx_k186_0 pc r (by omega) (by omega) hr
theorem jx_o187 : ∀ pc r, jx_c187 pc = some r → jx_ok 187 pc r = true := by
  intro pc r hr
  have ht := jx_top (top := 154) (fun pc h => by unfold jx_c187; rw [h]; rfl) hr
  rcases Nat.lt_or_ge pc 120 with h0 | h0
  · exact jx_all_spec jx_k187_0 pc r (by omega) (by omega) hr
  exact jx_all_spec jx_k187_1 pc r (by omega) (by omega) hr
theorem jx_o188 : ∀ pc r, jx_c188 pc = some r → jx_ok 188 pc r = true := by
  intro pc r hr
  have ht := jx_top (top := 84) (fun pc h => by unfold jx_c188; rw [h]; rfl) hr
  exact jx_all_spec jx_k188_0 pc r (by omega) (by omega) hr
theorem jx_o189 : ∀ pc r, jx_c189 pc = some r → jx_ok 189 pc r = true := by
  intro pc r hr
  have ht := jx_top (top := 60) (fun pc h => by unfold jx_c189; rw [h]; rfl) hr
  exact jx_all_spec jx_k189_0 pc r (by omega) (by omega) hr
theorem jx_o190 : ∀ pc r, jx_c190 pc = some r → jx_ok 190 pc r = true := by
  intro pc r hr
  have ht := jx_top (top := 155) (fun pc h => by unfold jx_c190; rw [h]; rfl) hr
  rcases Nat.lt_or_ge pc 120 with h0 | h0
  · exact jx_all_spec jx_k190_0 pc r (by omega) (by omega) hr
  exact jx_all_spec jx_k190_1 pc r (by omega) (by omega) hr
theorem jx_o191 : ∀ pc r, jx_c191 pc = some r → jx_ok 191 pc r = true := by
  intro pc r hr
  have ht := jx_top (top := 323) (fun pc h => by unfold jx_c191; rw [h]; rfl) hr
  rcases Nat.lt_or_ge pc 120 with h0 | h0
  · exact jx_all_spec jx_k191_0 pc r (by omega) (by omega) hr
  rcases Nat.lt_or_ge pc 240 with h1 | h1
  · exact jx_all_spec jx_k191_1 pc r (by omega) (by omega) hr
  exact jx_all_spec jx_k191_2 pc r (by omega) (by omega) hr
theorem jx_o192 : ∀ pc r, jx_c192 pc = some r → jx_ok 192 pc r = true := by
  intro pc r hr
  have ht := jx_top (top := 27) (fun pc h => by unfold jx_c192; rw [h]; rfl) hr
  exact jx_all_spec jx_k192_0 pc r (by omega) (by omega) hr
theorem jx_o193 : ∀ pc r, jx_c193 pc = some r → jx_ok 193 pc r = true := by
  intro pc r hr
  have ht := jx_top (top := 165) (fun pc h => by unfold jx_c193; rw [h]; rfl) hr
  rcases Nat.lt_or_ge pc 120 with h0 | h0
  · exact jx_all_spec jx_k193_0 pc r (by omega) (by omega) hr
  exact jx_all_spec jx_k193_1 pc r (by omega) (by omega) hr
theorem jx_o194 : ∀ pc r, jx_c194 pc = some r → jx_ok 194 pc r = true := by
  intro pc r hr
  have ht := jx_top (top := 150) (fun pc h => by unfold jx_c194; rw [h]; rfl) hr
  rcases Nat.lt_or_ge pc 120 with h0 | h0
  · exact jx_all_spec jx_k194_0 pc r (by omega) (by omega) hr
  exact jx_all_spec jx_k194_1 pc r (by omega) (by omega) hr
theorem jx_o195 : ∀ pc r, jx_c195 pc = some r → jx_ok 195 pc r = true := by
  intro pc r hr
  have ht := jx_top (top := 339) (fun pc h => by unfold jx_c195; rw [h]; rfl) hr
  rcases Nat.lt_or_ge pc 120 with h0 | h0
  · exact jx_all_spec jx_k195_0 pc r (by omega) (by omega) hr
  rcases Nat.lt_or_ge pc 240 with h1 | h1
  · exact jx_all_spec jx_k195_1 pc r (by omega) (by omega) hr
  exact jx_all_spec jx_k195_2 pc r (by omega) (by omega) hr
theorem jx_o196 : ∀ pc r, jx_c196 pc = some r → jx_ok 196 pc r = true := by
  intro pc r hr
  have ht := jx_top (top := 136) (fun pc h => by unfold jx_c196; rw [h]; rfl) hr
  rcases Nat.lt_or_ge pc 120 with h0 | h0
  · exact jx_all_spec jx_k196_0 pc r (by omega) (by omega) hr
  exact jx_all_spec jx_k196_1 pc r (by omega) (by omega) hr
theorem jx_o197 : ∀ pc r, jx_c197 pc = some r → jx_ok 197 pc r = true := by
  intro pc r hr
  have ht := jx_top (top := 19) (fun pc h => by unfold jx_c197; rw [h]; rfl) hr
  exact jx_all_spec jx_k197_0 pc r (by omega) (by omega) hr
theorem jx_o198 : ∀ pc r, jx_c198 pc = some r → jx_ok 198 pc r = true := by
  intro pc r hr
  have ht := jx_top (top := 66) (fun pc h => by unfold jx_c198; rw [h]; rfl) hr
  exact jx_all_spec jx_k198_0 pc r (by omega) (by omega) hr
theorem jx_o199 : ∀ pc r, jx_c199 pc = some r → jx_ok 199 pc r = true := by
  intro pc r hr
  have ht := jx_top (top := 24) (fun pc h => by unfold jx_c199; rw [h]; rfl) hr
  exact jx_all_spec jx_k199_0 pc r (by omega) (by omega) hr
theorem jx_o200 : ∀ pc r, jx_c200 pc = some r → jx_ok 200 pc r = true := by
  intro pc r hr
  have ht := jx_top (top := 246) (fun pc h => by unfold jx_c200; rw [h]; rfl) hr
  rcases Nat.lt_or_ge pc 120 with h0 | h0
  · exact jx_all_spec jx_k200_0 pc r (by omega) (by omega) hr
  rcases Nat.lt_or_ge pc 240 with h1 | h1
  · exact jx_all_spec jx_k200_1 pc r (by omega) (by omega) hr
  exact jx_all_spec jx_k200_2 pc r (by omega) (by omega) hr
theorem jx_o201 : ∀ pc r, jx_c201 pc = some r → jx_ok 201 pc r = true := by
  intro pc r hr
  have ht := jx_top (top := 179) (fun pc h => by unfold jx_c201; rw [h]; rfl) hr
  rcases Nat.lt_or_ge pc 120 with h0 | h0
  · exact jx_all_spec jx_k201_0 pc r (by omega) (by omega) hr
  exact jx_all_spec jx_k201_1 pc r (by omega) (by omega) hr
theorem jx_o202 : ∀ pc r, jx_c202 pc = some r → jx_ok 202 pc r = true := by
  intro pc r hr
  have ht := jx_top (top := 121) (fun pc h => by unfold jx_c202; rw [h]; rfl) hr
  rcases Nat.lt_or_ge pc 120 with h0 | h0
  · exact jx_all_spec jx_k202_0 pc r (by omega) (by omega) hr
  exact jx_all_spec jx_k202_1 pc r (by omega) (by omega) hr
theorem jx_o203 : ∀ pc r, jx_c203 pc = some r → jx_ok 203 pc r = true := by
  intro pc r hr
  have ht := jx_top (top := 42) (fun pc h => by unfold jx_c203; rw [h]; rfl) hr
  exact jx_all_spec jx_k203_0 pc r (by omega) (by omega) hr
theorem jx_o204 : ∀ pc r, jx_c204 pc = some r → jx_ok 204 pc r = true := by
  intro pc r hr
  have ht := jx_top (top := 117) (fun pc h => by unfold jx_c204; rw [h]; rfl) hr
  exact jx_all_spec jx_k204_0 pc r (by omega) (by omega) hr
theorem jx_o205 : ∀ pc r, jx_c205 pc = some r → jx_ok 205 pc r = true := by
  intro pc r hr
  have ht := jx_top (top := 52) (fun pc h => by unfold jx_c205; rw [h]; rfl) hr
  exact jx_all_spec jx_k205_0 pc r (by omega) (by omega) hr
theorem jx_o206 : ∀ pc r, jx_c206 pc = some r → jx_ok 206 pc r = true := by
  intro pc r hr
  have ht := jx_top (top := 79) (fun pc h => by unfold jx_c206; rw [h]; rfl) hr
  exact jx_all_spec jx_k206_0 pc r (by omega) (by omega) hr
theorem jx_o207 : ∀ pc r, jx_c207 pc = some r → jx_ok 207 pc r = true := by
  intro pc r hr
  have ht := jx_top (top := 10) (fun pc h => by unfold jx_c207; rw [h]; rfl) hr
  exact jx_all_spec jx_k207_0 pc r (by omega) (by omega) hr
theorem jx_o208 : ∀ pc r, jx_c208 pc = some r → jx_ok 208 pc r = true := by
  intro pc r hr
  have ht := jx_top (top := 10) (fun pc h => by unfold jx_c208; rw [h]; rfl) hr
  exact jx_all_spec jx_k208_0 pc r (by omega) (by omega) hr
theorem jx_o209 : ∀ pc r, jx_c209 pc = some r → jx_ok 209 pc r = true := by
  intro pc r hr
  have ht := jx_top (top := 10) (fun pc h => by unfold jx_c209; rw [h]; rfl) hr
  exact jx_all_spec jx_k209_0 pc r (by omega) (by omega) hr
theorem jx_o210 : ∀ pc r, jx_c210 pc = some r → jx_ok 210 pc r = true := by
  intro pc r hr
  have ht := jx_top (top := 11) (fun pc h => by unfold jx_c210; rw [h]; rfl) hr
  exact jx_all_spec jx_k210_0 pc r (by omega) (by omega) hr
theorem jx_o211 : ∀ pc r, jx_c211 pc = some r → jx_ok 211 pc r = true := by
  intro pc r hr
  have ht := jx_top (top := 11) (fun pc h => by unfold jx_c211; rw [h]; rfl) hr
  exact jx_all_spec jx_k211_0 pc r (by omega) (by omega) hr
theorem jx_o212 : ∀ pc r, jx_c212 pc = some r → jx_ok 212 pc r = true := by
  intro pc r hr
  have ht := jx_top (top := 29) (fun pc h => by unfold jx_c212; rw [h]; rfl) hr
  exact jx_all_spec jx_k212_0 pc r (by omega) (by omega) hr
theorem jx_o213 : ∀ pc r, jx_c213 pc = some r → jx_ok 213 pc r = true := by
  intro pc r hr
  have ht := jx_top (top := 32) (fun pc h => by unfold jx_c213; rw [h]; rfl) hr
  exact jx_all_spec jx_k213_0 pc r (by omega) (by omega) hr
theorem jx_o214 : ∀ pc r, jx_c214 pc = some r → jx_ok 214 pc r = true := by
  intro pc r hr
  have ht := jx_top (top := 22) (fun pc h => by unfold jx_c214; rw [h]; rfl) hr
  exact jx_all_spec jx_k214_0 pc r (by omega) (by omega) hr
theorem jx_o215 : ∀ pc r, jx_c215 pc = some r → jx_ok 215 pc r = true := by
  intro pc r hr
  have ht := jx_top (top := 1356) (fun pc h => by unfold jx_c215; rw [h]; rfl) hr
  rcases Nat.lt_or_ge pc 60 with h0 | h0
  · exact jx_all_spec jx_k215_0 pc r (by omega) (by omega) hr
  rcases Nat.lt_or_ge pc 120 with h1 | h1
  · exact jx_all_spec jx_k215_1 pc r (by omega) (by omega) hr
  rcases Nat.lt_or_ge pc 180 with h2 | h2
  · exact jx_all_spec jx_k215_2 pc r (by omega) (by omega) hr
  rcases Nat.lt_or_ge pc 240 with h3 | h3
  · exact jx_all_spec jx_k215_3 pc r (by omega) (by omega) hr
  rcases Nat.lt_or_ge pc 300 with h4 | h4
  · exact jx_all_spec jx_k215_4 pc r (by omega) (by omega) hr
  rcases Nat.lt_or_ge pc 360 with h5 | h5
  · exact jx_all_spec jx_k215_5 pc r (by omega) (by omega) hr
  rcases Nat.lt_or_ge pc 420 with h6 | h6
  · exact jx_all_spec jx_k215_6 pc r (by omega) (by omega) hr
  rcases Nat.lt_or_ge pc 480 with h7 | h7
  · exact jx_all_spec jx_k215_7 pc r (by omega) (by omega) hr
  rcases Nat.lt_or_ge pc 540 with h8 | h8
  · exact jx_all_spec jx_k215_8 pc r (by omega) (by omega) hr
  rcases Nat.lt_or_ge pc 600 with h9 | h9
  · exact jx_all_spec jx_k215_9 pc r (by omega) (by omega) hr
  rcases Nat.lt_or_ge pc 660 with h10 | h10
  · exact jx_all_spec jx_k215_10 pc r (by omega) (by omega) hr
  rcases Nat.lt_or_ge pc 720 with h11 | h11
  · exact jx_all_spec jx_k215_11 pc r (by omega) (by omega) hr
  rcases Nat.lt_or_ge pc 780 with h12 | h12
  · exact jx_all_spec jx_k215_12 pc r (by omega) (by omega) hr
  rcases Nat.lt_or_ge pc 840 with h13 | h13
  · exact jx_all_spec jx_k215_13 pc r (by omega) (by omega) hr
  rcases Nat.lt_or_ge pc 900 with h14 | h14
  · exact jx_all_spec jx_k215_14 pc r (by omega) (by omega) hr
  rcases Nat.lt_or_ge pc 960 with h15 | h15
  · exact jx_all_spec jx_k215_15 pc r (by omega) (by omega) hr
  rcases Nat.lt_or_ge pc 1020 with h16 | h16
  · exact jx_all_spec jx_k215_16 pc r (by omega) (by omega) hr
  rcases Nat.lt_or_ge pc 1080 with h17 | h17
  · exact jx_all_spec jx_k215_17 pc r (by omega) (by omega) hr
  rcases Nat.lt_or_ge pc 1140 with h18 | h18
  · exact jx_all_spec jx_k215_18 pc r (by omega) (by omega) hr
  rcases Nat.lt_or_ge pc 1200 with h19 | h19
  · exact jx_all_spec jx_k215_19 pc r (by omega) (by omega) hr
  rcases Nat.lt_or_ge pc 1260 with h20 | h20
  · exact jx_all_spec jx_k215_20 pc r (by omega) (by omega) hr
  rcases Nat.lt_or_ge pc 1320 with h21 | h21
  · exact jx_all_spec jx_k215_21 pc r (by omega) (by omega) hr
  exact jx_all_spec jx_k215_22 pc r (by omega) (by omega) hr
theorem jx_good_all : jx_good 0 jx_rcs := ⟨jx_o0, ⟨jx_o1, ⟨jx_o2, ⟨jx_o3, ⟨jx_o4, ⟨jx_o5, ⟨jx_o6, ⟨jx_o7, ⟨jx_o8, ⟨jx_o9, ⟨jx_o10, ⟨jx_o11, ⟨jx_o12, ⟨jx_o13, ⟨jx_o14, ⟨jx_o15, ⟨jx_o16, ⟨jx_o17, ⟨jx_o18, ⟨jx_o19, ⟨jx_o20, ⟨jx_o21, ⟨jx_o22, ⟨jx_o23, ⟨jx_o24, ⟨jx_o25, ⟨jx_o26, ⟨jx_o27, ⟨jx_o28, ⟨jx_o29, ⟨jx_o30, ⟨jx_o31, ⟨jx_o32, ⟨jx_o33, ⟨jx_o34, ⟨jx_o35, ⟨jx_o36, ⟨jx_o37, ⟨jx_o38, ⟨jx_o39, ⟨jx_o40, ⟨jx_o41, ⟨jx_o42, ⟨jx_o43, ⟨jx_o44, ⟨jx_o45, ⟨jx_o46, ⟨jx_o47, ⟨jx_o48, ⟨jx_o49, ⟨jx_o50, ⟨jx_o51, ⟨jx_o52, ⟨jx_o53, ⟨jx_o54, ⟨jx_o55, ⟨jx_o56, ⟨jx_o57, ⟨jx_o58, ⟨jx_o59, ⟨jx_o60, ⟨jx_o61, ⟨jx_o62, ⟨jx_o63, ⟨jx_o64, ⟨jx_o65, ⟨jx_o66, ⟨jx_o67, ⟨jx_o68, ⟨jx_o69, ⟨jx_o70, ⟨jx_o71, ⟨jx_o72, ⟨jx_o73, ⟨jx_o74, ⟨jx_o75, ⟨jx_o76, ⟨jx_o77, ⟨jx_o78, ⟨jx_o79, ⟨jx_o80, ⟨jx_o81, ⟨jx_o82, ⟨jx_o83, ⟨jx_o84, ⟨jx_o85, ⟨jx_o86, ⟨jx_o87, ⟨jx_o88, ⟨jx_o89, ⟨jx_o90, ⟨jx_o91, ⟨jx_o92, ⟨jx_o93, ⟨jx_o94, ⟨jx_o95, ⟨jx_o96, ⟨jx_o97, ⟨jx_o98, ⟨jx_o99, ⟨jx_o100, ⟨jx_o101, ⟨jx_o102, ⟨jx_o103, ⟨jx_o104, ⟨jx_o105, ⟨jx_o106, ⟨jx_o107, ⟨jx_o108, ⟨jx_o109, ⟨jx_o110, ⟨jx_o111, ⟨jx_o112, ⟨jx_o113, ⟨jx_o114, ⟨jx_o115, ⟨jx_o116, ⟨jx_o117, ⟨jx_o118, ⟨jx_o119, ⟨jx_o120, ⟨jx_o121, ⟨jx_o122, ⟨jx_o123, ⟨jx_o124, ⟨jx_o125, ⟨jx_o126, ⟨jx_o127, ⟨jx_o128, ⟨jx_o129, ⟨jx_o130, ⟨jx_o131, ⟨jx_o132, ⟨jx_o133, ⟨jx_o134, ⟨jx_o135, ⟨jx_o136, ⟨jx_o137, ⟨jx_o138, ⟨jx_o139, ⟨jx_o140, ⟨jx_o141, ⟨jx_o142, ⟨jx_o143, ⟨jx_o144, ⟨jx_o145, ⟨jx_o146, ⟨jx_o147, ⟨jx_o148, ⟨jx_o149, ⟨jx_o150, ⟨jx_o151, ⟨jx_o152, ⟨jx_o153, ⟨jx_o154, ⟨jx_o155, ⟨jx_o156, ⟨jx_o157, ⟨jx_o158, ⟨jx_o159, ⟨jx_o160, ⟨jx_o161, ⟨jx_o162, ⟨jx_o163, ⟨jx_o164, ⟨jx_o165, ⟨jx_o166, ⟨jx_o167, ⟨jx_o168, ⟨jx_o169, ⟨jx_o170, ⟨jx_o171, ⟨jx_o172, ⟨jx_o173, ⟨jx_o174, ⟨jx_o175, ⟨jx_o176, ⟨jx_o177, ⟨jx_o178, ⟨jx_o179, ⟨jx_o180, ⟨jx_o181, ⟨jx_o182, ⟨jx_o183, ⟨jx_o184, ⟨jx_o185, ⟨jx_o186, ⟨jx_o187, ⟨jx_o188, ⟨jx_o189, ⟨jx_o190, ⟨jx_o191, ⟨jx_o192, ⟨jx_o193, ⟨jx_o194, ⟨jx_o195, ⟨jx_o196, ⟨jx_o197, ⟨jx_o198, ⟨jx_o199, ⟨jx_o200, ⟨jx_o201, ⟨jx_o202, ⟨jx_o203, ⟨jx_o204, ⟨jx_o205, ⟨jx_o206, ⟨jx_o207, ⟨jx_o208, ⟨jx_o209, ⟨jx_o210, ⟨jx_o211, ⟨jx_o212, ⟨jx_o213, ⟨jx_o214, ⟨jx_o215, trivial⟩⟩⟩⟩⟩⟩⟩⟩⟩⟩⟩⟩⟩⟩⟩⟩⟩⟩⟩⟩⟩⟩⟩⟩⟩⟩⟩⟩⟩⟩⟩⟩⟩⟩⟩⟩⟩⟩⟩⟩⟩⟩⟩⟩⟩⟩⟩⟩⟩⟩⟩⟩⟩⟩⟩⟩⟩⟩⟩⟩⟩⟩⟩⟩⟩⟩⟩⟩⟩⟩⟩⟩⟩⟩⟩⟩⟩⟩⟩⟩⟩⟩⟩⟩⟩⟩⟩⟩⟩⟩⟩⟩⟩⟩⟩⟩⟩⟩⟩⟩⟩⟩⟩⟩⟩⟩⟩⟩⟩⟩⟩⟩⟩⟩⟩⟩⟩⟩⟩⟩⟩⟩⟩⟩⟩⟩⟩⟩⟩⟩⟩⟩⟩⟩⟩⟩⟩⟩⟩⟩⟩⟩⟩⟩⟩⟩⟩⟩⟩⟩⟩⟩⟩⟩⟩⟩⟩⟩⟩⟩⟩⟩⟩⟩⟩⟩⟩⟩⟩⟩⟩⟩⟩⟩⟩⟩⟩⟩⟩⟩⟩⟩⟩⟩⟩⟩⟩⟩⟩⟩⟩⟩⟩⟩⟩⟩⟩⟩⟩⟩⟩⟩⟩⟩⟩⟩⟩⟩⟩⟩⟩⟩⟩⟩⟩⟩
theorem jx_rc_ok {m pc : Nat} {r : jx_Row} (h : jx_rc m pc = some r) : jx_ok m pc r = true := by
  unfold jx_rc at h
  rw [List.getD_eq_getElem?_getD] at h
  cases hf : jx_rcs[m]? with
  | none => rw [hf] at h; cases h
  | some f =>
    rw [hf] at h
    have := jx_good_at jx_rcs 0 m f jx_good_all hf pc r h
    rwa [Nat.zero_add] at this
theorem jx_rc_lt {m pc : Nat} {r : jx_Row} (h : jx_rc m pc = some r) : m < 216 := by
  unfold jx_rc at h
  rw [List.getD_eq_getElem?_getD] at h
  cases hf : jx_rcs[m]? with
  | none => rw [hf] at h; cases h
  | some f => exact (List.getElem?_eq_some_iff.mp hf).1
