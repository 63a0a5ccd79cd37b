set_option maxRecDepth 100000 in
theorem jx_k46_0 : jx_all 46 jx_c46 0 61 = true := by decide +kernel
set_option maxRecDepth 100000 in
theorem jx_k47_0 : jx_all 47 jx_c47 0 52 = true := by decide +kernel
set_option maxRecDepth 100000 in
theorem jx_k48_0 : jx_all 48 jx_c48 0 56 = true := by decide +kernel
set_option maxRecDepth 100000 in
theorem jx_k49_0 : jx_all 49 jx_c49 0 30 = true := by decide +kernel
set_option maxRecDepth 100000 in
theorem jx_k50_0 : jx_all 50 jx_c50 0 56 = true := by decide +kernel
set_option maxRecDepth 100000 in
theorem jx_k51_0 : jx_all 51 jx_c51 0 110 = true := by decide +kernel
set_option maxRecDepth 100000 in
theorem jx_k52_0 : jx_all 52 jx_c52 0 17 = true := by decide +kernel
set_option maxRecDepth 100000 in
theorem jx_k53_0 : jx_all 53 jx_c53 0 32 = true := by decide +kernel
set_option maxRecDepth 100000 in
theorem jx_k54_0 : jx_all 54 jx_c54 0 37 = true := by decide +kernel
set_option maxRecDepth 100000 in
theorem jx_k55_0 : jx_all 55 jx_c55 0 15 = true := by decide +kernel
set_option maxRecDepth 100000 in
theorem jx_k56_0 : jx_all 56 jx_c56 0 45 = true := by decide +kernel
set_option maxRecDepth 100000 in
theorem jx_k57_0 : jx_all 57 jx_c57 0 99 = true := by decide +kernel
set_option maxRecDepth 100000 in
theorem jx_k58_0 : jx_all 58 jx_c58 0 120 = true := by decide +kernel
set_option maxRecDepth 100000 in
theorem jx_k58_1 : jx_all 58 jx_c58 120 4 = true := by decide +kernel
set_option maxRecDepth 100000 in
theorem jx_k59_0 : jx_all 59 jx_c59 0 101 = true := by decide +kernel
set_option maxRecDepth 100000 in
theorem jx_k60_0 : jx_all 60 jx_c60 0 87 = true := by decide +kernel
set_option maxRecDepth 100000 in
theorem jx_k61_0 : jx_all 61 jx_c61 0 85 = true := by decide +kernel
set_option maxRecDepth 100000 in
theorem jx_k62_0 : jx_all 62 jx_c62 0 120 = true := by decide +kernel
set_option maxRecDepth 100000 in
theorem jx_k62_1 : jx_all 62 jx_c62 120 42 = true := by decide +kernel
set_option maxRecDepth 100000 in
theorem jx_k63_0 : jx_all 63 jx_c63 0 15 = true := by decide +kernel
set_option maxRecDepth 100000 in
theorem jx_k64_0 : jx_all 64 jx_c64 0 42 = true := by decide +kernel
set_option maxRecDepth 100000 in
theorem jx_k65_0 : jx_all 65 jx_c65 0 25 = true := by decide +kernel
set_option maxRecDepth 100000 in
theorem jx_k66_0 : jx_all 66 jx_c66 0 80 = true := by decide +kernel
set_option maxRecDepth 100000 in
theorem jx_k67_0 : jx_all 67 jx_c67 0 118 = true := by decide +kernel
set_option maxRecDepth 100000 in
theorem jx_k68_0 : jx_all 68 jx_c68 0 55 = true := by decide +kernel
set_option maxRecDepth 100000 in
theorem jx_k69_0 : jx_all 69 jx_c69 0 64 = true := by decide +kernel
set_option maxRecDepth 100000 in
theorem jx_k70_0 : jx_all 70 jx_c70 0 38 = true := by decide +kernel
set_option maxRecDepth 100000 in
theorem jx_k71_0 : jx_all 71 jx_c71 0 54 = true := by decide +kernel
set_option maxRecDepth 100000 in
theorem jx_k72_0 : jx_all 72 jx_c72 0 60 = true := by decide +kernel
set_option maxRecDepth 100000 in
theorem jx_k73_0 : jx_all 73 jx_c73 0 29 = true := by decide +kernel
set_option maxRecDepth 100000 in
theorem jx_k74_0 : jx_all 74 jx_c74 0 23 = true := by decide +kernel
set_option maxRecDepth 100000 in
theorem jx_k75_0 : jx_all 75 jx_c75 0 82 = true := by decide +kernel
set_option maxRecDepth 100000 in
theorem jx_k76_0 : jx_all 76 jx_c76 0 54 = true := by decide +kernel
set_option maxRecDepth 100000 in
theorem jx_k77_0 : jx_all 77 jx_c77 0 30 = true := by decide +kernel
set_option maxRecDepth 100000 in
theorem jx_k78_0 : jx_all 78 jx_c78 0 30 = true := by decide +kernel
set_option maxRecDepth 100000 in
theorem jx_k79_0 : jx_all 79 jx_c79 0 120 = true := by decide +kernel
set_option maxRecDepth 100000 in
theorem jx_k79_1 : jx_all 79 jx_c79 120 73 = true := by decide +kernel
set_option maxRecDepth 100000 in
theorem jx_k80_0 : jx_all 80 jx_c80 0 22 = true := by decide +kernel
set_option maxRecDepth 100000 in
theorem jx_k81_0 : jx_all 81 jx_c81 0 26 = true := by decide +kernel
set_option maxRecDepth 100000 in
theorem jx_k82_0 : jx_all 82 jx_c82 0 21 = true := by decide +kernel
set_option maxRecDepth 100000 in
theorem jx_k83_0 : jx_all 83 jx_c83 0 23 = true := by decide +kernel
set_option maxRecDepth 100000 in
theorem jx_k84_0 : jx_all 84 jx_c84 0 57 = true := by decide +kernel
set_option maxRecDepth 100000 in
theorem jx_k85_0 : jx_all 85 jx_c85 0 120 = true := by decide +kernel
set_option maxRecDepth 100000 in
theorem jx_k86_0 : jx_all 86 jx_c86 0 24 = true := by decide +kernel
set_option maxRecDepth 100000 in
theorem jx_k87_0 : jx_all 87 jx_c87 0 32 = true := by decide +kernel
set_option maxRecDepth 100000 in
theorem jx_k88_0 : jx_all 88 jx_c88 0 119 = true := by decide +kernel
set_option maxRecDepth 100000 in
theorem jx_k89_0 : jx_all 89 jx_c89 0 57 = true := by decide +kernel
set_option maxRecDepth 100000 in
theorem jx_k90_0 : jx_all 90 jx_c90 0 16 = true := by decide +kernel
set_option maxRecDepth 100000 in
theorem jx_k91_0 : jx_all 91 jx_c91 0 19 = true := by decide +kernel
set_option maxRecDepth 100000 in
theorem jx_k92_0 : jx_all 92 jx_c92 0 63 = true := by decide +kernel
set_option maxRecDepth 100000 in
theorem jx_k93_0 : jx_all 93 jx_c93 0 72 = true := by decide +kernel
set_option maxRecDepth 100000 in
theorem jx_k94_0 : jx_all 94 jx_c94 0 26 = true := by decide +kernel
set_option maxRecDepth 100000 in
theorem jx_k95_0 : jx_all 95 jx_c95 0 120 = true := by decide +kernel
