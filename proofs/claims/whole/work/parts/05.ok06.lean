set_option maxRecDepth 100000 in
theorem jx_k215_15 : jx_all 215 jx_c215 900 60 = true := by decide +kernel
set_option maxRecDepth 100000 in
theorem jx_k215_16 : jx_all 215 jx_c215 960 60 = true := by decide +kernel
set_option maxRecDepth 100000 in
theorem jx_k215_17 : jx_all 215 jx_c215 1020 60 = true := by decide +kernel
set_option maxRecDepth 100000 in
theorem jx_k215_18 : jx_all 215 jx_c215 1080 60 = true := by decide +kernel
set_option maxRecDepth 100000 in
theorem jx_k215_19 : jx_all 215 jx_c215 1140 60 = true := by decide +kernel
set_option maxRecDepth 100000 in
theorem jx_k215_20 : jx_all 215 jx_c215 1200 60 = true := by decide +kernel
set_option maxRecDepth 100000 in
theorem jx_k215_21 : jx_all 215 jx_c215 1260 60 = true := by decide +kernel
set_option maxRecDepth 100000 in
theorem jx_k215_22 : jx_all 215 jx_c215 1320 37 = true := by decide +kernel
