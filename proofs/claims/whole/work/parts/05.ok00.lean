set_option maxRecDepth 100000 in
theorem jx_k0_0 : jx_all 0 jx_c0 0 53 = true := by decide +kernel
set_option maxRecDepth 100000 in
theorem jx_k1_0 : jx_all 1 jx_c1 0 17 = true := by decide +kernel
set_option maxRecDepth 100000 in
theorem jx_k2_0 : jx_all 2 jx_c2 0 55 = true := by decide +kernel
set_option maxRecDepth 100000 in
theorem jx_k3_0 : jx_all 3 jx_c3 0 82 = true := by decide +kernel
set_option maxRecDepth 100000 in
theorem jx_k4_0 : jx_all 4 jx_c4 0 90 = true := by decide +kernel
set_option maxRecDepth 100000 in
theorem jx_k5_0 : jx_all 5 jx_c5 0 120 = true := by decide +kernel
set_option maxRecDepth 100000 in
theorem jx_k5_1 : jx_all 5 jx_c5 120 19 = true := by decide +kernel
set_option maxRecDepth 100000 in
theorem jx_k6_0 : jx_all 6 jx_c6 0 29 = true := by decide +kernel
set_option maxRecDepth 100000 in
theorem jx_k7_0 : jx_all 7 jx_c7 0 41 = true := by decide +kernel
set_option maxRecDepth 100000 in
theorem jx_k8_0 : jx_all 8 jx_c8 0 85 = true := by decide +kernel
set_option maxRecDepth 100000 in
theorem jx_k9_0 : jx_all 9 jx_c9 0 32 = true := by decide +kernel
set_option maxRecDepth 100000 in
theorem jx_k10_0 : jx_all 10 jx_c10 0 25 = true := by decide +kernel
set_option maxRecDepth 100000 in
theorem jx_k11_0 : jx_all 11 jx_c11 0 76 = true := by decide +kernel
set_option maxRecDepth 100000 in
theorem jx_k12_0 : jx_all 12 jx_c12 0 68 = true := by decide +kernel
set_option maxRecDepth 100000 in
theorem jx_k13_0 : jx_all 13 jx_c13 0 36 = true := by decide +kernel
set_option maxRecDepth 100000 in
theorem jx_k14_0 : jx_all 14 jx_c14 0 6 = true := by decide +kernel
set_option maxRecDepth 100000 in
theorem jx_k15_0 : jx_all 15 jx_c15 0 36 = true := by decide +kernel
set_option maxRecDepth 100000 in
theorem jx_k16_0 : jx_all 16 jx_c16 0 120 = true := by decide +kernel
set_option maxRecDepth 100000 in
theorem jx_k16_1 : jx_all 16 jx_c16 120 11 = true := by decide +kernel
set_option maxRecDepth 100000 in
theorem jx_k17_0 : jx_all 17 jx_c17 0 45 = true := by decide +kernel
set_option maxRecDepth 100000 in
theorem jx_k18_0 : jx_all 18 jx_c18 0 63 = true := by decide +kernel
set_option maxRecDepth 100000 in
theorem jx_k19_0 : jx_all 19 jx_c19 0 76 = true := by decide +kernel
set_option maxRecDepth 100000 in
theorem jx_k20_0 : jx_all 20 jx_c20 0 120 = true := by decide +kernel
set_option maxRecDepth 100000 in
theorem jx_k20_1 : jx_all 20 jx_c20 120 64 = true := by decide +kernel
set_option maxRecDepth 100000 in
theorem jx_k21_0 : jx_all 21 jx_c21 0 90 = true := by decide +kernel
set_option maxRecDepth 100000 in
theorem jx_k22_0 : jx_all 22 jx_c22 0 69 = true := by decide +kernel
set_option maxRecDepth 100000 in
theorem jx_k23_0 : jx_all 23 jx_c23 0 99 = true := by decide +kernel
set_option maxRecDepth 100000 in
theorem jx_k24_0 : jx_all 24 jx_c24 0 18 = true := by decide +kernel
set_option maxRecDepth 100000 in
theorem jx_k25_0 : jx_all 25 jx_c25 0 46 = true := by decide +kernel
set_option maxRecDepth 100000 in
theorem jx_k26_0 : jx_all 26 jx_c26 0 82 = true := by decide +kernel
set_option maxRecDepth 100000 in
theorem jx_k27_0 : jx_all 27 jx_c27 0 28 = true := by decide +kernel
set_option maxRecDepth 100000 in
theorem jx_k28_0 : jx_all 28 jx_c28 0 34 = true := by decide +kernel
set_option maxRecDepth 100000 in
theorem jx_k29_0 : jx_all 29 jx_c29 0 18 = true := by decide +kernel
set_option maxRecDepth 100000 in
theorem jx_k30_0 : jx_all 30 jx_c30 0 26 = true := by decide +kernel
set_option maxRecDepth 100000 in
theorem jx_k31_0 : jx_all 31 jx_c31 0 38 = true := by decide +kernel
set_option maxRecDepth 100000 in
theorem jx_k32_0 : jx_all 32 jx_c32 0 18 = true := by decide +kernel
set_option maxRecDepth 100000 in
theorem jx_k33_0 : jx_all 33 jx_c33 0 115 = true := by decide +kernel
set_option maxRecDepth 100000 in
theorem jx_k34_0 : jx_all 34 jx_c34 0 29 = true := by decide +kernel
set_option maxRecDepth 100000 in
theorem jx_k35_0 : jx_all 35 jx_c35 0 39 = true := by decide +kernel
set_option maxRecDepth 100000 in
theorem jx_k36_0 : jx_all 36 jx_c36 0 48 = true := by decide +kernel
set_option maxRecDepth 100000 in
theorem jx_k37_0 : jx_all 37 jx_c37 0 18 = true := by decide +kernel
set_option maxRecDepth 100000 in
theorem jx_k38_0 : jx_all 38 jx_c38 0 67 = true := by decide +kernel
set_option maxRecDepth 100000 in
theorem jx_k39_0 : jx_all 39 jx_c39 0 100 = true := by decide +kernel
set_option maxRecDepth 100000 in
theorem jx_k40_0 : jx_all 40 jx_c40 0 120 = true := by decide +kernel
set_option maxRecDepth 100000 in
theorem jx_k40_1 : jx_all 40 jx_c40 120 14 = true := by decide +kernel
set_option maxRecDepth 100000 in
theorem jx_k41_0 : jx_all 41 jx_c41 0 58 = true := by decide +kernel
set_option maxRecDepth 100000 in
theorem jx_k42_0 : jx_all 42 jx_c42 0 101 = true := by decide +kernel
set_option maxRecDepth 100000 in
theorem jx_k43_0 : jx_all 43 jx_c43 0 41 = true := by decide +kernel
set_option maxRecDepth 100000 in
theorem jx_k44_0 : jx_all 44 jx_c44 0 120 = true := by decide +kernel
set_option maxRecDepth 100000 in
theorem jx_k44_1 : jx_all 44 jx_c44 120 56 = true := by decide +kernel
set_option maxRecDepth 100000 in
theorem jx_k45_0 : jx_all 45 jx_c45 0 79 = true := by decide +kernel
