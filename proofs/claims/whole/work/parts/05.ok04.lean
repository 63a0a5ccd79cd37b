set_option maxRecDepth 100000 in
theorem jx_k181_0 : jx_all 181 jx_c181 0 120 = true := by decide +kernel
set_option maxRecDepth 100000 in
theorem jx_k181_1 : jx_all 181 jx_c181 120 47 = true := by decide +kernel
set_option maxRecDepth 100000 in
theorem jx_k182_0 : jx_all 182 jx_c182 0 120 = true := by decide +kernel
set_option maxRecDepth 100000 in
theorem jx_k182_1 : jx_all 182 jx_c182 120 68 = true := by decide +kernel
set_option maxRecDepth 100000 in
theorem jx_k183_0 : jx_all 183 jx_c183 0 22 = true := by decide +kernel
set_option maxRecDepth 100000 in
theorem jx_k184_0 : jx_all 184 jx_c184 0 120 = true := by decide +kernel
set_option maxRecDepth 100000 in
theorem jx_k184_1 : jx_all 184 jx_c184 120 85 = true := by decide +kernel
set_option maxRecDepth 100000 in
theorem jx_k185_0 : jx_all 185 jx_c185 0 120 = true := by decide +kernel
set_option maxRecDepth 100000 in
theorem jx_k185_1 : jx_all 185 jx_c185 120 104 = true := by decide +kernel
set_option maxRecDepth 100000 in
theorem jx_k186_0 : jx_all 186 jx_c186 0 57 = true := by decide +kernel
set_option maxRecDepth 100000 in
theorem jx_k187_0 : jx_all 187 jx_c187 0 120 = true := by decide +kernel
set_option maxRecDepth 100000 in
theorem jx_k187_1 : jx_all 187 jx_c187 120 35 = true := by decide +kernel
set_option maxRecDepth 100000 in
theorem jx_k188_0 : jx_all 188 jx_c188 0 85 = true := by decide +kernel
set_option maxRecDepth 100000 in
theorem jx_k189_0 : jx_all 189 jx_c189 0 61 = true := by decide +kernel
set_option maxRecDepth 100000 in
theorem jx_k190_0 : jx_all 190 jx_c190 0 120 = true := by decide +kernel
set_option maxRecDepth 100000 in
theorem jx_k190_1 : jx_all 190 jx_c190 120 36 = true := by decide +kernel
set_option maxRecDepth 100000 in
theorem jx_k191_0 : jx_all 191 jx_c191 0 120 = true := by decide +kernel
set_option maxRecDepth 100000 in
theorem jx_k191_1 : jx_all 191 jx_c191 120 120 = true := by decide +kernel
set_option maxRecDepth 100000 in
theorem jx_k191_2 : jx_all 191 jx_c191 240 84 = true := by decide +kernel
set_option maxRecDepth 100000 in
theorem jx_k192_0 : jx_all 192 jx_c192 0 28 = true := by decide +kernel
set_option maxRecDepth 100000 in
theorem jx_k193_0 : jx_all 193 jx_c193 0 120 = true := by decide +kernel
set_option maxRecDepth 100000 in
theorem jx_k193_1 : jx_all 193 jx_c193 120 46 = true := by decide +kernel
set_option maxRecDepth 100000 in
theorem jx_k194_0 : jx_all 194 jx_c194 0 120 = true := by decide +kernel
set_option maxRecDepth 100000 in
theorem jx_k194_1 : jx_all 194 jx_c194 120 31 = true := by decide +kernel
set_option maxRecDepth 100000 in
theorem jx_k195_0 : jx_all 195 jx_c195 0 120 = true := by decide +kernel
set_option maxRecDepth 100000 in
theorem jx_k195_1 : jx_all 195 jx_c195 120 120 = true := by decide +kernel
set_option maxRecDepth 100000 in
theorem jx_k195_2 : jx_all 195 jx_c195 240 100 = true := by decide +kernel
set_option maxRecDepth 100000 in
theorem jx_k196_0 : jx_all 196 jx_c196 0 120 = true := by decide +kernel
set_option maxRecDepth 100000 in
theorem jx_k196_1 : jx_all 196 jx_c196 120 17 = true := by decide +kernel
set_option maxRecDepth 100000 in
theorem jx_k197_0 : jx_all 197 jx_c197 0 20 = true := by decide +kernel
set_option maxRecDepth 100000 in
theorem jx_k198_0 : jx_all 198 jx_c198 0 67 = true := by decide +kernel
set_option maxRecDepth 100000 in
theorem jx_k199_0 : jx_all 199 jx_c199 0 25 = true := by decide +kernel
