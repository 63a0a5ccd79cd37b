set_option maxRecDepth 100000 in
theorem jx_k200_0 : jx_all 200 jx_c200 0 120 = true := by decide +kernel
set_option maxRecDepth 100000 in
theorem jx_k200_1 : jx_all 200 jx_c200 120 120 = true := by decide +kernel
set_option maxRecDepth 100000 in
theorem jx_k200_2 : jx_all 200 jx_c200 240 7 = true := by decide +kernel
set_option maxRecDepth 100000 in
theorem jx_k201_0 : jx_all 201 jx_c201 0 120 = true := by decide +kernel
set_option maxRecDepth 100000 in
theorem jx_k201_1 : jx_all 201 jx_c201 120 60 = true := by decide +kernel
set_option maxRecDepth 100000 in
theorem jx_k202_0 : jx_all 202 jx_c202 0 120 = true := by decide +kernel
set_option maxRecDepth 100000 in
theorem jx_k202_1 : jx_all 202 jx_c202 120 2 = true := by decide +kernel
set_option maxRecDepth 100000 in
theorem jx_k203_0 : jx_all 203 jx_c203 0 43 = true := by decide +kernel
set_option maxRecDepth 100000 in
theorem jx_k204_0 : jx_all 204 jx_c204 0 118 = true := by decide +kernel
set_option maxRecDepth 100000 in
theorem jx_k205_0 : jx_all 205 jx_c205 0 53 = true := by decide +kernel
set_option maxRecDepth 100000 in
theorem jx_k206_0 : jx_all 206 jx_c206 0 80 = true := by decide +kernel
set_option maxRecDepth 100000 in
theorem jx_k207_0 : jx_all 207 jx_c207 0 11 = true := by decide +kernel
set_option maxRecDepth 100000 in
theorem jx_k208_0 : jx_all 208 jx_c208 0 11 = true := by decide +kernel
set_option maxRecDepth 100000 in
theorem jx_k209_0 : jx_all 209 jx_c209 0 11 = true := by decide +kernel
set_option maxRecDepth 100000 in
theorem jx_k210_0 : jx_all 210 jx_c210 0 12 = true := by decide +kernel
set_option maxRecDepth 100000 in
theorem jx_k211_0 : jx_all 211 jx_c211 0 12 = true := by decide +kernel
set_option maxRecDepth 100000 in
theorem jx_k212_0 : jx_all 212 jx_c212 0 30 = true := by decide +kernel
set_option maxRecDepth 100000 in
theorem jx_k213_0 : jx_all 213 jx_c213 0 33 = true := by decide +kernel
set_option maxRecDepth 100000 in
theorem jx_k214_0 : jx_all 214 jx_c214 0 23 = true := by decide +kernel
set_option maxRecDepth 100000 in
theorem jx_k215_0 : jx_all 215 jx_c215 0 60 = true := by decide +kernel
set_option maxRecDepth 100000 in
theorem jx_k215_1 : jx_all 215 jx_c215 60 60 = true := by decide +kernel
set_option maxRecDepth 100000 in
theorem jx_k215_2 : jx_all 215 jx_c215 120 60 = true := by decide +kernel
set_option maxRecDepth 100000 in
theorem jx_k215_3 : jx_all 215 jx_c215 180 60 = true := by decide +kernel
set_option maxRecDepth 100000 in
theorem jx_k215_4 : jx_all 215 jx_c215 240 60 = true := by decide +kernel
set_option maxRecDepth 100000 in
theorem jx_k215_5 : jx_all 215 jx_c215 300 60 = true := by decide +kernel
set_option maxRecDepth 100000 in
theorem jx_k215_6 : jx_all 215 jx_c215 360 60 = true := by decide +kernel
set_option maxRecDepth 100000 in
theorem jx_k215_7 : jx_all 215 jx_c215 420 60 = true := by decide +kernel
set_option maxRecDepth 100000 in
theorem jx_k215_8 : jx_all 215 jx_c215 480 60 = true := by decide +kernel
set_option maxRecDepth 100000 in
theorem jx_k215_9 : jx_all 215 jx_c215 540 60 = true := by decide +kernel
set_option maxRecDepth 100000 in
theorem jx_k215_10 : jx_all 215 jx_c215 600 60 = true := by decide +kernel
set_option maxRecDepth 100000 in
theorem jx_k215_11 : jx_all 215 jx_c215 660 60 = true := by decide +kernel
set_option maxRecDepth 100000 in
theorem jx_k215_12 : jx_all 215 jx_c215 720 60 = true := by decide +kernel
set_option maxRecDepth 100000 in
theorem jx_k215_13 : jx_all 215 jx_c215 780 60 = true := by decide +kernel
set_option maxRecDepth 100000 in
theorem jx_k215_14 : jx_all 215 jx_c215 840 60 = true := by decide +kernel
