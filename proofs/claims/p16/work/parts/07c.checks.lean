set_option maxRecDepth 1000000 in
theorem s_mok_e126 : s_mok s_e126 = true := kw_mI (e := s_e126) rfl rfl (tb_q1 (i := 72) rfl rfl) (tb_q1 (i := 5) rfl rfl) (tb_q1 (i := 71) rfl rfl) (by decide +kernel)
set_option maxRecDepth 1000000 in
theorem s_mok_e127 : s_mok s_e127 = true := kw_mV (e := s_e127) rfl (tb_q3 (i := 39) rfl rfl) (tb_q1 (i := 5) rfl rfl) (tb_q3 (i := 37) rfl rfl) (tb_q3 (i := 38) rfl rfl) (by decide +kernel) (by decide +kernel)
set_option maxRecDepth 1000000 in
theorem s_mok_e128 : s_mok s_e128 = true := kw_mV (e := s_e128) rfl (tb_q3 (i := 68) rfl rfl) (tb_q1 (i := 5) rfl rfl) (tb_q3 (i := 66) rfl rfl) (tb_q3 (i := 67) rfl rfl) (by decide +kernel) (by decide +kernel)
set_option maxRecDepth 1000000 in
theorem s_mok_e129 : s_mok s_e129 = true := kw_mV (e := s_e129) rfl (tb_q3 (i := 72) rfl rfl) (tb_q1 (i := 5) rfl rfl) (tb_q3 (i := 70) rfl rfl) (tb_q3 (i := 71) rfl rfl) (by decide +kernel) (by decide +kernel)
set_option maxRecDepth 1000000 in
theorem s_mok_e130 : s_mok s_e130 = true := kw_mV (e := s_e130) rfl (tb_q3 (i := 64) rfl rfl) (tb_q1 (i := 5) rfl rfl) (tb_q3 (i := 62) rfl rfl) (tb_q3 (i := 63) rfl rfl) (by decide +kernel) (by decide +kernel)
set_option maxRecDepth 1000000 in
theorem s_mok_e131 : s_mok s_e131 = true := kw_mV (e := s_e131) rfl (tb_q4 (i := 146) rfl rfl) (tb_q1 (i := 5) rfl rfl) (tb_q4 (i := 144) rfl rfl) (tb_q4 (i := 145) rfl rfl) (by decide +kernel) (by decide +kernel)
set_option maxRecDepth 1000000 in
theorem s_mok_e132 : s_mok s_e132 = true := kw_mV (e := s_e132) rfl (tb_q4 (i := 159) rfl rfl) (tb_q1 (i := 5) rfl rfl) (tb_q4 (i := 157) rfl rfl) (tb_q4 (i := 158) rfl rfl) (by decide +kernel) (by decide +kernel)
set_option maxRecDepth 1000000 in
theorem s_mok_e133 : s_mok s_e133 = true := kw_mI (e := s_e133) rfl rfl (tb_q1 (i := 21) rfl rfl) (tb_q1 (i := 1) rfl rfl) (tb_q1 (i := 20) rfl rfl) (by decide +kernel)
set_option maxRecDepth 1000000 in
theorem s_mok_e134 : s_mok s_e134 = true := kw_mV (e := s_e134) rfl (tb_q2 (i := 106) rfl rfl) (tb_q1 (i := 1) rfl rfl) (tb_q2 (i := 104) rfl rfl) (tb_q2 (i := 105) rfl rfl) (by decide +kernel) (by decide +kernel)
set_option maxRecDepth 1000000 in
theorem s_mok_e135 : s_mok s_e135 = true := kw_mV (e := s_e135) rfl (tb_q2 (i := 110) rfl rfl) (tb_q1 (i := 1) rfl rfl) (tb_q2 (i := 108) rfl rfl) (tb_q2 (i := 109) rfl rfl) (by decide +kernel) (by decide +kernel)
set_option maxRecDepth 1000000 in
theorem s_mok_e136 : s_mok s_e136 = true := kw_mV (e := s_e136) rfl (tb_q2 (i := 213) rfl rfl) (tb_q1 (i := 1) rfl rfl) (tb_q2 (i := 211) rfl rfl) (tb_q2 (i := 212) rfl rfl) (by decide +kernel) (by decide +kernel)
set_option maxRecDepth 1000000 in
theorem s_mok_e137 : s_mok s_e137 = true := kw_mV (e := s_e137) rfl (tb_q2 (i := 228) rfl rfl) (tb_q1 (i := 1) rfl rfl) (tb_q2 (i := 227) rfl rfl) (by decide +kernel) (by decide +kernel) (by decide +kernel)
set_option maxRecDepth 1000000 in
theorem s_mok_e138 : s_mok s_e138 = true := kw_mV (e := s_e138) rfl (tb_q3 (i := 2) rfl rfl) (tb_q1 (i := 1) rfl rfl) (tb_q3 (i := 0) rfl rfl) (tb_q3 (i := 1) rfl rfl) (by decide +kernel) (by decide +kernel)
set_option maxRecDepth 1000000 in
theorem s_mok_e139 : s_mok s_e139 = true := kw_mV (e := s_e139) rfl (tb_q3 (i := 6) rfl rfl) (tb_q1 (i := 1) rfl rfl) (tb_q3 (i := 5) rfl rfl) (by decide +kernel) (by decide +kernel) (by decide +kernel)
set_option maxRecDepth 1000000 in
theorem s_mok_e140 : s_mok s_e140 = true := kw_mV (e := s_e140) rfl (tb_q3 (i := 35) rfl rfl) (tb_q1 (i := 1) rfl rfl) (tb_q3 (i := 33) rfl rfl) (tb_q3 (i := 34) rfl rfl) (by decide +kernel) (by decide +kernel)
set_option maxRecDepth 1000000 in
theorem s_mok_e141 : s_mok s_e141 = true := kw_mV (e := s_e141) rfl (tb_q3 (i := 43) rfl rfl) (tb_q1 (i := 1) rfl rfl) (tb_q3 (i := 41) rfl rfl) (tb_q3 (i := 42) rfl rfl) (by decide +kernel) (by decide +kernel)
set_option maxRecDepth 1000000 in
theorem s_mok_e142 : s_mok s_e142 = true := kw_mV (e := s_e142) rfl (tb_q3 (i := 47) rfl rfl) (tb_q1 (i := 1) rfl rfl) (tb_q3 (i := 46) rfl rfl) (by decide +kernel) (by decide +kernel) (by decide +kernel)
set_option maxRecDepth 1000000 in
theorem s_mok_e143 : s_mok s_e143 = true := kw_mV (e := s_e143) rfl (tb_q3 (i := 145) rfl rfl) (tb_q1 (i := 1) rfl rfl) (tb_q3 (i := 143) rfl rfl) (tb_q3 (i := 144) rfl rfl) (by decide +kernel) (by decide +kernel)
set_option maxRecDepth 1000000 in
theorem s_mok_e144 : s_mok s_e144 = true := kw_mV (e := s_e144) rfl (tb_q3 (i := 156) rfl rfl) (tb_q1 (i := 1) rfl rfl) (tb_q3 (i := 154) rfl rfl) (tb_q3 (i := 155) rfl rfl) (by decide +kernel) (by decide +kernel)
set_option maxRecDepth 1000000 in
theorem s_mok_e145 : s_mok s_e145 = true := kw_mV (e := s_e145) rfl (tb_q3 (i := 180) rfl rfl) (tb_q1 (i := 1) rfl rfl) (tb_q3 (i := 178) rfl rfl) (tb_q3 (i := 179) rfl rfl) (by decide +kernel) (by decide +kernel)
set_option maxRecDepth 1000000 in
theorem s_mok_e146 : s_mok s_e146 = true := kw_mV (e := s_e146) rfl (tb_q3 (i := 221) rfl rfl) (tb_q1 (i := 1) rfl rfl) (tb_q3 (i := 219) rfl rfl) (tb_q3 (i := 220) rfl rfl) (by decide +kernel) (by decide +kernel)
set_option maxRecDepth 1000000 in
theorem s_mok_e147 : s_mok s_e147 = true := kw_mV (e := s_e147) rfl (tb_q3 (i := 229) rfl rfl) (tb_q1 (i := 1) rfl rfl) (tb_q3 (i := 227) rfl rfl) (tb_q3 (i := 228) rfl rfl) (by decide +kernel) (by decide +kernel)
set_option maxRecDepth 1000000 in
theorem s_mok_e148 : s_mok s_e148 = true := kw_mV (e := s_e148) rfl (tb_q4 (i := 10) rfl rfl) (tb_q1 (i := 1) rfl rfl) (tb_q4 (i := 8) rfl rfl) (tb_q4 (i := 9) rfl rfl) (by decide +kernel) (by decide +kernel)
set_option maxRecDepth 1000000 in
theorem s_mok_e149 : s_mok s_e149 = true := kw_mV (e := s_e149) rfl (tb_q4 (i := 76) rfl rfl) (tb_q1 (i := 1) rfl rfl) (tb_q4 (i := 74) rfl rfl) (tb_q4 (i := 75) rfl rfl) (by decide +kernel) (by decide +kernel)
set_option maxRecDepth 1000000 in
theorem s_mok_e150 : s_mok s_e150 = true := kw_mV (e := s_e150) rfl (tb_q4 (i := 93) rfl rfl) (tb_q1 (i := 1) rfl rfl) (tb_q4 (i := 91) rfl rfl) (tb_q4 (i := 92) rfl rfl) (by decide +kernel) (by decide +kernel)
set_option maxRecDepth 1000000 in
theorem s_mok_e151 : s_mok s_e151 = true := kw_mV (e := s_e151) rfl (tb_q4 (i := 109) rfl rfl) (tb_q1 (i := 1) rfl rfl) (tb_q4 (i := 107) rfl rfl) (tb_q4 (i := 108) rfl rfl) (by decide +kernel) (by decide +kernel)
set_option maxRecDepth 1000000 in
theorem s_mok_e152 : s_mok s_e152 = true := kw_mV (e := s_e152) rfl (tb_q4 (i := 120) rfl rfl) (tb_q1 (i := 1) rfl rfl) (tb_q4 (i := 118) rfl rfl) (tb_q4 (i := 119) rfl rfl) (by decide +kernel) (by decide +kernel)
set_option maxRecDepth 1000000 in
theorem s_mok_e153 : s_mok s_e153 = true := kw_mV (e := s_e153) rfl (tb_q4 (i := 124) rfl rfl) (tb_q1 (i := 1) rfl rfl) (tb_q4 (i := 122) rfl rfl) (tb_q4 (i := 123) rfl rfl) (by decide +kernel) (by decide +kernel)
set_option maxRecDepth 1000000 in
theorem s_mok_e154 : s_mok s_e154 = true := kw_mV (e := s_e154) rfl (tb_q4 (i := 130) rfl rfl) (tb_q1 (i := 1) rfl rfl) (tb_q4 (i := 128) rfl rfl) (tb_q4 (i := 129) rfl rfl) (by decide +kernel) (by decide +kernel)
set_option maxRecDepth 1000000 in
theorem s_mok_e155 : s_mok s_e155 = true := kw_mV (e := s_e155) rfl (tb_q4 (i := 138) rfl rfl) (tb_q1 (i := 1) rfl rfl) (tb_q4 (i := 136) rfl rfl) (tb_q4 (i := 137) rfl rfl) (by decide +kernel) (by decide +kernel)
set_option maxRecDepth 1000000 in
theorem s_mok_e156 : s_mok s_e156 = true := kw_mV (e := s_e156) rfl (tb_q4 (i := 151) rfl rfl) (tb_q1 (i := 1) rfl rfl) (tb_q4 (i := 149) rfl rfl) (tb_q4 (i := 150) rfl rfl) (by decide +kernel) (by decide +kernel)
set_option maxRecDepth 1000000 in
theorem s_mok_e157 : s_mok s_e157 = true := kw_mV (e := s_e157) rfl (tb_q4 (i := 167) rfl rfl) (tb_q1 (i := 1) rfl rfl) (tb_q4 (i := 165) rfl rfl) (tb_q4 (i := 166) rfl rfl) (by decide +kernel) (by decide +kernel)
set_option maxRecDepth 1000000 in
theorem s_mok_e158 : s_mok s_e158 = true := kw_mV (e := s_e158) rfl (tb_q4 (i := 191) rfl rfl) (tb_q1 (i := 1) rfl rfl) (tb_q4 (i := 189) rfl rfl) (tb_q4 (i := 190) rfl rfl) (by decide +kernel) (by decide +kernel)
set_option maxRecDepth 1000000 in
theorem s_mok_e159 : s_mok s_e159 = true := kw_mV (e := s_e159) rfl (tb_q4 (i := 207) rfl rfl) (tb_q1 (i := 1) rfl rfl) (tb_q4 (i := 205) rfl rfl) (tb_q4 (i := 206) rfl rfl) (by decide +kernel) (by decide +kernel)
set_option maxRecDepth 1000000 in
theorem s_mok_e160 : s_mok s_e160 = true := kw_mV (e := s_e160) rfl (tb_q4 (i := 218) rfl rfl) (tb_q1 (i := 1) rfl rfl) (tb_q4 (i := 216) rfl rfl) (tb_q4 (i := 217) rfl rfl) (by decide +kernel) (by decide +kernel)
set_option maxRecDepth 1000000 in
theorem s_mok_e161 : s_mok s_e161 = true := kw_mV (e := s_e161) rfl (tb_q5 (i := 24) rfl rfl) (tb_q1 (i := 1) rfl rfl) (tb_q5 (i := 22) rfl rfl) (tb_q5 (i := 23) rfl rfl) (by decide +kernel) (by decide +kernel)
set_option maxRecDepth 1000000 in
theorem s_mok_e162 : s_mok s_e162 = true := kw_mV (e := s_e162) rfl (tb_q5 (i := 32) rfl rfl) (tb_q1 (i := 1) rfl rfl) (tb_q5 (i := 30) rfl rfl) (tb_q5 (i := 31) rfl rfl) (by decide +kernel) (by decide +kernel)
set_option maxRecDepth 1000000 in
theorem s_mok_e163 : s_mok s_e163 = true := kw_mV (e := s_e163) rfl (tb_q5 (i := 45) rfl rfl) (tb_q1 (i := 1) rfl rfl) (tb_q5 (i := 43) rfl rfl) (tb_q5 (i := 44) rfl rfl) (by decide +kernel) (by decide +kernel)
set_option maxRecDepth 1000000 in
theorem s_mok_e164 : s_mok s_e164 = true := kw_mV (e := s_e164) rfl (tb_q5 (i := 56) rfl rfl) (tb_q1 (i := 1) rfl rfl) (tb_q5 (i := 54) rfl rfl) (tb_q5 (i := 55) rfl rfl) (by decide +kernel) (by decide +kernel)
set_option maxRecDepth 1000000 in
theorem s_mok_e165 : s_mok s_e165 = true := kw_mV (e := s_e165) rfl (tb_q5 (i := 81) rfl rfl) (tb_q1 (i := 1) rfl rfl) (tb_q5 (i := 79) rfl rfl) (tb_q5 (i := 80) rfl rfl) (by decide +kernel) (by decide +kernel)
set_option maxRecDepth 1000000 in
theorem s_mok_e166 : s_mok s_e166 = true := kw_mV (e := s_e166) rfl (tb_q5 (i := 86) rfl rfl) (tb_q1 (i := 1) rfl rfl) (tb_q5 (i := 84) rfl rfl) (tb_q5 (i := 85) rfl rfl) (by decide +kernel) (by decide +kernel)
set_option maxRecDepth 1000000 in
theorem s_mok_e167 : s_mok s_e167 = true := kw_mV (e := s_e167) rfl (tb_q5 (i := 96) rfl rfl) (tb_q1 (i := 1) rfl rfl) (tb_q5 (i := 94) rfl rfl) (tb_q5 (i := 95) rfl rfl) (by decide +kernel) (by decide +kernel)
