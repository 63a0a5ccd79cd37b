set_option maxRecDepth 100000 in
theorem jx_k140_0 : jx_all 140 jx_c140 0 29 = true := by decide +kernel
set_option maxRecDepth 100000 in
theorem jx_k141_0 : jx_all 141 jx_c141 0 29 = true := by decide +kernel
set_option maxRecDepth 100000 in
theorem jx_k142_0 : jx_all 142 jx_c142 0 120 = true := by decide +kernel
set_option maxRecDepth 100000 in
theorem jx_k142_1 : jx_all 142 jx_c142 120 77 = true := by decide +kernel
set_option maxRecDepth 100000 in
theorem jx_k143_0 : jx_all 143 jx_c143 0 47 = true := by decide +kernel
set_option maxRecDepth 100000 in
theorem jx_k144_0 : jx_all 144 jx_c144 0 120 = true := by decide +kernel
set_option maxRecDepth 100000 in
theorem jx_k144_1 : jx_all 144 jx_c144 120 21 = true := by decide +kernel
set_option maxRecDepth 100000 in
theorem jx_k145_0 : jx_all 145 jx_c145 0 90 = true := by decide +kernel
set_option maxRecDepth 100000 in
theorem jx_k146_0 : jx_all 146 jx_c146 0 15 = true := by decide +kernel
set_option maxRecDepth 100000 in
theorem jx_k147_0 : jx_all 147 jx_c147 0 80 = true := by decide +kernel
set_option maxRecDepth 100000 in
theorem jx_k148_0 : jx_all 148 jx_c148 0 120 = true := by decide +kernel
set_option maxRecDepth 100000 in
theorem jx_k148_1 : jx_all 148 jx_c148 120 120 = true := by decide +kernel
set_option maxRecDepth 100000 in
theorem jx_k148_2 : jx_all 148 jx_c148 240 39 = true := by decide +kernel
set_option maxRecDepth 100000 in
theorem jx_k149_0 : jx_all 149 jx_c149 0 72 = true := by decide +kernel
set_option maxRecDepth 100000 in
theorem jx_k150_0 : jx_all 150 jx_c150 0 26 = true := by decide +kernel
set_option maxRecDepth 100000 in
theorem jx_k151_0 : jx_all 151 jx_c151 0 69 = true := by decide +kernel
set_option maxRecDepth 100000 in
theorem jx_k152_0 : jx_all 152 jx_c152 0 16 = true := by decide +kernel
set_option maxRecDepth 100000 in
theorem jx_k153_0 : jx_all 153 jx_c153 0 14 = true := by decide +kernel
set_option maxRecDepth 100000 in
theorem jx_k154_0 : jx_all 154 jx_c154 0 120 = true := by decide +kernel
set_option maxRecDepth 100000 in
theorem jx_k155_0 : jx_all 155 jx_c155 0 66 = true := by decide +kernel
set_option maxRecDepth 100000 in
theorem jx_k156_0 : jx_all 156 jx_c156 0 65 = true := by decide +kernel
set_option maxRecDepth 100000 in
theorem jx_k157_0 : jx_all 157 jx_c157 0 19 = true := by decide +kernel
set_option maxRecDepth 100000 in
theorem jx_k158_0 : jx_all 158 jx_c158 0 10 = true := by decide +kernel
set_option maxRecDepth 100000 in
theorem jx_k159_0 : jx_all 159 jx_c159 0 112 = true := by decide +kernel
set_option maxRecDepth 100000 in
theorem jx_k160_0 : jx_all 160 jx_c160 0 64 = true := by decide +kernel
set_option maxRecDepth 100000 in
theorem jx_k161_0 : jx_all 161 jx_c161 0 31 = true := by decide +kernel
set_option maxRecDepth 100000 in
theorem jx_k162_0 : jx_all 162 jx_c162 0 85 = true := by decide +kernel
set_option maxRecDepth 100000 in
theorem jx_k163_0 : jx_all 163 jx_c163 0 23 = true := by decide +kernel
set_option maxRecDepth 100000 in
theorem jx_k164_0 : jx_all 164 jx_c164 0 93 = true := by decide +kernel
set_option maxRecDepth 100000 in
theorem jx_k165_0 : jx_all 165 jx_c165 0 83 = true := by decide +kernel
set_option maxRecDepth 100000 in
theorem jx_k166_0 : jx_all 166 jx_c166 0 120 = true := by decide +kernel
set_option maxRecDepth 100000 in
theorem jx_k166_1 : jx_all 166 jx_c166 120 58 = true := by decide +kernel
set_option maxRecDepth 100000 in
theorem jx_k167_0 : jx_all 167 jx_c167 0 120 = true := by decide +kernel
set_option maxRecDepth 100000 in
theorem jx_k167_1 : jx_all 167 jx_c167 120 19 = true := by decide +kernel
set_option maxRecDepth 100000 in
theorem jx_k168_0 : jx_all 168 jx_c168 0 42 = true := by decide +kernel
set_option maxRecDepth 100000 in
theorem jx_k169_0 : jx_all 169 jx_c169 0 19 = true := by decide +kernel
set_option maxRecDepth 100000 in
theorem jx_k170_0 : jx_all 170 jx_c170 0 41 = true := by decide +kernel
set_option maxRecDepth 100000 in
theorem jx_k171_0 : jx_all 171 jx_c171 0 48 = true := by decide +kernel
set_option maxRecDepth 100000 in
theorem jx_k172_0 : jx_all 172 jx_c172 0 31 = true := by decide +kernel
set_option maxRecDepth 100000 in
theorem jx_k173_0 : jx_all 173 jx_c173 0 54 = true := by decide +kernel
set_option maxRecDepth 100000 in
theorem jx_k174_0 : jx_all 174 jx_c174 0 67 = true := by decide +kernel
set_option maxRecDepth 100000 in
theorem jx_k175_0 : jx_all 175 jx_c175 0 79 = true := by decide +kernel
set_option maxRecDepth 100000 in
theorem jx_k176_0 : jx_all 176 jx_c176 0 46 = true := by decide +kernel
set_option maxRecDepth 100000 in
theorem jx_k177_0 : jx_all 177 jx_c177 0 120 = true := by decide +kernel
set_option maxRecDepth 100000 in
theorem jx_k177_1 : jx_all 177 jx_c177 120 46 = true := by decide +kernel
set_option maxRecDepth 100000 in
theorem jx_k178_0 : jx_all 178 jx_c178 0 10 = true := by decide +kernel
set_option maxRecDepth 100000 in
theorem jx_k179_0 : jx_all 179 jx_c179 0 14 = true := by decide +kernel
set_option maxRecDepth 100000 in
theorem jx_k180_0 : jx_all 180 jx_c180 0 29 = true := by decide +kernel
