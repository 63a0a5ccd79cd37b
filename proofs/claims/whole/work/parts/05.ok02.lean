set_option maxRecDepth 100000 in
theorem jx_k95_1 : jx_all 95 jx_c95 120 30 = true := by decide +kernel
set_option maxRecDepth 100000 in
theorem jx_k96_0 : jx_all 96 jx_c96 0 107 = true := by decide +kernel
set_option maxRecDepth 100000 in
theorem jx_k97_0 : jx_all 97 jx_c97 0 24 = true := by decide +kernel
set_option maxRecDepth 100000 in
theorem jx_k98_0 : jx_all 98 jx_c98 0 9 = true := by decide +kernel
set_option maxRecDepth 100000 in
theorem jx_k99_0 : jx_all 99 jx_c99 0 13 = true := by decide +kernel
set_option maxRecDepth 100000 in
theorem jx_k100_0 : jx_all 100 jx_c100 0 64 = true := by decide +kernel
set_option maxRecDepth 100000 in
theorem jx_k101_0 : jx_all 101 jx_c101 0 120 = true := by decide +kernel
set_option maxRecDepth 100000 in
theorem jx_k101_1 : jx_all 101 jx_c101 120 20 = true := by decide +kernel
set_option maxRecDepth 100000 in
theorem jx_k102_0 : jx_all 102 jx_c102 0 70 = true := by decide +kernel
set_option maxRecDepth 100000 in
theorem jx_k103_0 : jx_all 103 jx_c103 0 26 = true := by decide +kernel
set_option maxRecDepth 100000 in
theorem jx_k104_0 : jx_all 104 jx_c104 0 66 = true := by decide +kernel
set_option maxRecDepth 100000 in
theorem jx_k105_0 : jx_all 105 jx_c105 0 120 = true := by decide +kernel
set_option maxRecDepth 100000 in
theorem jx_k105_1 : jx_all 105 jx_c105 120 17 = true := by decide +kernel
set_option maxRecDepth 100000 in
theorem jx_k106_0 : jx_all 106 jx_c106 0 41 = true := by decide +kernel
set_option maxRecDepth 100000 in
theorem jx_k107_0 : jx_all 107 jx_c107 0 32 = true := by decide +kernel
set_option maxRecDepth 100000 in
theorem jx_k108_0 : jx_all 108 jx_c108 0 32 = true := by decide +kernel
set_option maxRecDepth 100000 in
theorem jx_k109_0 : jx_all 109 jx_c109 0 106 = true := by decide +kernel
set_option maxRecDepth 100000 in
theorem jx_k110_0 : jx_all 110 jx_c110 0 48 = true := by decide +kernel
set_option maxRecDepth 100000 in
theorem jx_k111_0 : jx_all 111 jx_c111 0 99 = true := by decide +kernel
set_option maxRecDepth 100000 in
theorem jx_k112_0 : jx_all 112 jx_c112 0 31 = true := by decide +kernel
set_option maxRecDepth 100000 in
theorem jx_k113_0 : jx_all 113 jx_c113 0 7 = true := by decide +kernel
set_option maxRecDepth 100000 in
theorem jx_k114_0 : jx_all 114 jx_c114 0 31 = true := by decide +kernel
set_option maxRecDepth 100000 in
theorem jx_k115_0 : jx_all 115 jx_c115 0 52 = true := by decide +kernel
set_option maxRecDepth 100000 in
theorem jx_k116_0 : jx_all 116 jx_c116 0 52 = true := by decide +kernel
set_option maxRecDepth 100000 in
theorem jx_k117_0 : jx_all 117 jx_c117 0 32 = true := by decide +kernel
set_option maxRecDepth 100000 in
theorem jx_k118_0 : jx_all 118 jx_c118 0 53 = true := by decide +kernel
set_option maxRecDepth 100000 in
theorem jx_k119_0 : jx_all 119 jx_c119 0 87 = true := by decide +kernel
set_option maxRecDepth 100000 in
theorem jx_k120_0 : jx_all 120 jx_c120 0 120 = true := by decide +kernel
set_option maxRecDepth 100000 in
theorem jx_k120_1 : jx_all 120 jx_c120 120 10 = true := by decide +kernel
set_option maxRecDepth 100000 in
theorem jx_k121_0 : jx_all 121 jx_c121 0 22 = true := by decide +kernel
set_option maxRecDepth 100000 in
theorem jx_k122_0 : jx_all 122 jx_c122 0 77 = true := by decide +kernel
set_option maxRecDepth 100000 in
theorem jx_k123_0 : jx_all 123 jx_c123 0 35 = true := by decide +kernel
set_option maxRecDepth 100000 in
theorem jx_k124_0 : jx_all 124 jx_c124 0 120 = true := by decide +kernel
set_option maxRecDepth 100000 in
theorem jx_k124_1 : jx_all 124 jx_c124 120 13 = true := by decide +kernel
set_option maxRecDepth 100000 in
theorem jx_k125_0 : jx_all 125 jx_c125 0 120 = true := by decide +kernel
set_option maxRecDepth 100000 in
theorem jx_k125_1 : jx_all 125 jx_c125 120 28 = true := by decide +kernel
set_option maxRecDepth 100000 in
theorem jx_k126_0 : jx_all 126 jx_c126 0 120 = true := by decide +kernel
set_option maxRecDepth 100000 in
theorem jx_k126_1 : jx_all 126 jx_c126 120 33 = true := by decide +kernel
set_option maxRecDepth 100000 in
theorem jx_k127_0 : jx_all 127 jx_c127 0 11 = true := by decide +kernel
set_option maxRecDepth 100000 in
theorem jx_k128_0 : jx_all 128 jx_c128 0 84 = true := by decide +kernel
set_option maxRecDepth 100000 in
theorem jx_k129_0 : jx_all 129 jx_c129 0 120 = true := by decide +kernel
set_option maxRecDepth 100000 in
theorem jx_k129_1 : jx_all 129 jx_c129 120 120 = true := by decide +kernel
set_option maxRecDepth 100000 in
theorem jx_k129_2 : jx_all 129 jx_c129 240 13 = true := by decide +kernel
set_option maxRecDepth 100000 in
theorem jx_k130_0 : jx_all 130 jx_c130 0 48 = true := by decide +kernel
set_option maxRecDepth 100000 in
theorem jx_k131_0 : jx_all 131 jx_c131 0 36 = true := by decide +kernel
set_option maxRecDepth 100000 in
theorem jx_k132_0 : jx_all 132 jx_c132 0 48 = true := by decide +kernel
set_option maxRecDepth 100000 in
theorem jx_k133_0 : jx_all 133 jx_c133 0 36 = true := by decide +kernel
set_option maxRecDepth 100000 in
theorem jx_k134_0 : jx_all 134 jx_c134 0 106 = true := by decide +kernel
set_option maxRecDepth 100000 in
theorem jx_k135_0 : jx_all 135 jx_c135 0 10 = true := by decide +kernel
set_option maxRecDepth 100000 in
theorem jx_k136_0 : jx_all 136 jx_c136 0 19 = true := by decide +kernel
set_option maxRecDepth 100000 in
theorem jx_k137_0 : jx_all 137 jx_c137 0 48 = true := by decide +kernel
set_option maxRecDepth 100000 in
theorem jx_k138_0 : jx_all 138 jx_c138 0 94 = true := by decide +kernel
set_option maxRecDepth 100000 in
theorem jx_k139_0 : jx_all 139 jx_c139 0 14 = true := by decide +kernel
