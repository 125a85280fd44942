set_option maxRecDepth 1000000 in
theorem s_mok_e168 : s_mok s_e168 = true := kw_mV (e := s_e168) rfl (tb_q5 (i := 104) rfl rfl) (tb_q1 (i := 1) rfl rfl) (tb_q5 (i := 102) rfl rfl) (tb_q5 (i := 103) rfl rfl) (by decide +kernel) (by decide +kernel)
set_option maxRecDepth 1000000 in
theorem s_mok_e169 : s_mok s_e169 = true := kw_mS (e := s_e169) rfl (tb_q2 (i := 113) rfl rfl) (tb_q1 (i := 1) rfl rfl) (tb_q2 (i := 112) rfl rfl) (by decide +kernel)
set_option maxRecDepth 1000000 in
theorem s_mok_e170 : s_mok s_e170 = true := kw_mS (e := s_e170) rfl (tb_q2 (i := 116) rfl rfl) (tb_q1 (i := 1) rfl rfl) (tb_q2 (i := 115) rfl rfl) (by decide +kernel)
set_option maxRecDepth 1000000 in
theorem s_mok_e171 : s_mok s_e171 = true := kw_mS (e := s_e171) rfl (tb_q2 (i := 235) rfl rfl) (tb_q1 (i := 1) rfl rfl) (tb_q2 (i := 234) rfl rfl) (by decide +kernel)
set_option maxRecDepth 1000000 in
theorem s_mok_e172 : s_mok s_e172 = true := kw_mS (e := s_e172) rfl (tb_q2 (i := 238) rfl rfl) (tb_q1 (i := 1) rfl rfl) (tb_q2 (i := 237) rfl rfl) (by decide +kernel)
set_option maxRecDepth 1000000 in
theorem s_mok_e173 : s_mok s_e173 = true := kw_mS (e := s_e173) rfl (tb_q3 (i := 13) rfl rfl) (tb_q1 (i := 1) rfl rfl) (tb_q3 (i := 12) rfl rfl) (by decide +kernel)
set_option maxRecDepth 1000000 in
theorem s_mok_e174 : s_mok s_e174 = true := kw_mS (e := s_e174) rfl (tb_q3 (i := 232) rfl rfl) (tb_q1 (i := 1) rfl rfl) (tb_q3 (i := 231) rfl rfl) (by decide +kernel)
set_option maxRecDepth 1000000 in
theorem s_mok_e175 : s_mok s_e175 = true := kw_mS (e := s_e175) rfl (tb_q2 (i := 216) rfl rfl) (tb_q1 (i := 1) rfl rfl) (tb_q2 (i := 215) rfl rfl) (by decide +kernel)
set_option maxRecDepth 1000000 in
theorem s_mok_e176 : s_mok s_e176 = true := kw_mV (e := s_e176) rfl (tb_q2 (i := 220) rfl rfl) (tb_q1 (i := 1) rfl rfl) (tb_q2 (i := 219) rfl rfl) (by decide +kernel) (by decide +kernel) (by decide +kernel)
set_option maxRecDepth 1000000 in
theorem s_mok_e177 : s_mok s_e177 = true := kw_mV (e := s_e177) rfl (tb_q3 (i := 184) rfl rfl) (tb_q1 (i := 1) rfl rfl) (tb_q3 (i := 183) rfl rfl) (by decide +kernel) (by decide +kernel) (by decide +kernel)
set_option maxRecDepth 1000000 in
theorem s_mok_e178 : s_mok s_e178 = true := kw_mV (e := s_e178) rfl (tb_q4 (i := 14) rfl rfl) (tb_q1 (i := 1) rfl rfl) (tb_q4 (i := 13) rfl rfl) (by decide +kernel) (by decide +kernel) (by decide +kernel)
set_option maxRecDepth 1000000 in
theorem s_mok_e179 : s_mok s_e179 = true := kw_mV (e := s_e179) rfl (tb_q5 (i := 60) rfl rfl) (tb_q1 (i := 1) rfl rfl) (tb_q5 (i := 59) rfl rfl) (by decide +kernel) (by decide +kernel) (by decide +kernel)
set_option maxRecDepth 1000000 in
theorem s_mok_e180 : s_mok s_e180 = true := kw_mI (e := s_e180) rfl rfl (tb_q5 (i := 110) rfl rfl) (tb_q1 (i := 12) rfl rfl) (tb_q5 (i := 109) rfl rfl) (by decide +kernel)
set_option maxRecDepth 1000000 in
theorem s_mok_e181 : s_mok s_e181 = true := kw_mS (e := s_e181) rfl (tb_q6 (i := 31) rfl rfl) (tb_q1 (i := 12) rfl rfl) (tb_q6 (i := 30) rfl rfl) (by decide +kernel)
set_option maxRecDepth 1000000 in
theorem s_mok_e182 : s_mok s_e182 = true := kw_mS (e := s_e182) rfl (tb_q7 (i := 72) rfl rfl) (tb_q1 (i := 12) rfl rfl) (tb_q7 (i := 71) rfl rfl) (by decide +kernel)
set_option maxRecDepth 1000000 in
theorem s_mok_e183 : s_mok s_e183 = true := kw_mV (e := s_e183) rfl (tb_q6 (i := 28) rfl rfl) (tb_q1 (i := 12) rfl rfl) (tb_q6 (i := 26) rfl rfl) (tb_q6 (i := 27) rfl rfl) (by decide +kernel) (by decide +kernel)
set_option maxRecDepth 1000000 in
theorem s_mok_e184 : s_mok s_e184 = true := kw_mV (e := s_e184) rfl (tb_q6 (i := 71) rfl rfl) (tb_q1 (i := 12) rfl rfl) (tb_q6 (i := 70) rfl rfl) (by decide +kernel) (by decide +kernel) (by decide +kernel)
set_option maxRecDepth 1000000 in
theorem s_mok_e185 : s_mok s_e185 = true := kw_mV (e := s_e185) rfl (tb_q6 (i := 86) rfl rfl) (tb_q1 (i := 12) rfl rfl) (tb_q6 (i := 85) rfl rfl) (by decide +kernel) (by decide +kernel) (by decide +kernel)
set_option maxRecDepth 1000000 in
theorem s_mok_e186 : s_mok s_e186 = true := kw_mV (e := s_e186) rfl (tb_q6 (i := 78) rfl rfl) (tb_q1 (i := 12) rfl rfl) (tb_q6 (i := 77) rfl rfl) (by decide +kernel) (by decide +kernel) (by decide +kernel)
set_option maxRecDepth 1000000 in
theorem s_mok_e187 : s_mok s_e187 = true := kw_mS (e := s_e187) rfl (tb_q6 (i := 74) rfl rfl) (tb_q1 (i := 12) rfl rfl) (tb_q6 (i := 73) rfl rfl) (by decide +kernel)
set_option maxRecDepth 1000000 in
theorem s_mok_e188 : s_mok s_e188 = true := kw_mV (e := s_e188) rfl (tb_q6 (i := 82) rfl rfl) (tb_q1 (i := 12) rfl rfl) (tb_q6 (i := 81) rfl rfl) (by decide +kernel) (by decide +kernel) (by decide +kernel)
set_option maxRecDepth 1000000 in
theorem s_mok_e189 : s_mok s_e189 = true := kw_mV (e := s_e189) rfl (tb_q6 (i := 90) rfl rfl) (tb_q1 (i := 12) rfl rfl) (tb_q6 (i := 89) rfl rfl) (by decide +kernel) (by decide +kernel) (by decide +kernel)
set_option maxRecDepth 1000000 in
theorem s_mok_e190 : s_mok s_e190 = true := kw_mV (e := s_e190) rfl (tb_q6 (i := 67) rfl rfl) (tb_q1 (i := 12) rfl rfl) (tb_q6 (i := 66) rfl rfl) (by decide +kernel) (by decide +kernel) (by decide +kernel)
set_option maxRecDepth 1000000 in
theorem s_mok_e191 : s_mok s_e191 = true := kw_mV (e := s_e191) rfl (tb_q6 (i := 63) rfl rfl) (tb_q1 (i := 12) rfl rfl) (tb_q6 (i := 62) rfl rfl) (by decide +kernel) (by decide +kernel) (by decide +kernel)
set_option maxRecDepth 1000000 in
theorem s_mok_e192 : s_mok s_e192 = true := kw_mV (e := s_e192) rfl (tb_q6 (i := 59) rfl rfl) (tb_q1 (i := 12) rfl rfl) (tb_q6 (i := 58) rfl rfl) (by decide +kernel) (by decide +kernel) (by decide +kernel)
set_option maxRecDepth 1000000 in
theorem s_mok_e193 : s_mok s_e193 = true := kw_mV (e := s_e193) rfl (tb_q6 (i := 55) rfl rfl) (tb_q1 (i := 12) rfl rfl) (tb_q6 (i := 54) rfl rfl) (by decide +kernel) (by decide +kernel) (by decide +kernel)
set_option maxRecDepth 1000000 in
theorem s_mok_e194 : s_mok s_e194 = true := kw_mV (e := s_e194) rfl (tb_q6 (i := 51) rfl rfl) (tb_q1 (i := 12) rfl rfl) (tb_q6 (i := 50) rfl rfl) (by decide +kernel) (by decide +kernel) (by decide +kernel)
set_option maxRecDepth 1000000 in
theorem s_mok_e195 : s_mok s_e195 = true := kw_mV (e := s_e195) rfl (tb_q6 (i := 47) rfl rfl) (tb_q1 (i := 12) rfl rfl) (tb_q6 (i := 46) rfl rfl) (by decide +kernel) (by decide +kernel) (by decide +kernel)
set_option maxRecDepth 1000000 in
theorem s_mok_e196 : s_mok s_e196 = true := kw_mV (e := s_e196) rfl (tb_q6 (i := 43) rfl rfl) (tb_q1 (i := 12) rfl rfl) (tb_q6 (i := 42) rfl rfl) (by decide +kernel) (by decide +kernel) (by decide +kernel)
set_option maxRecDepth 1000000 in
theorem s_mok_e197 : s_mok s_e197 = true := kw_mV (e := s_e197) rfl (tb_q6 (i := 39) rfl rfl) (tb_q1 (i := 12) rfl rfl) (tb_q6 (i := 38) rfl rfl) (by decide +kernel) (by decide +kernel) (by decide +kernel)
set_option maxRecDepth 1000000 in
theorem s_mok_e198 : s_mok s_e198 = true := kw_mS (e := s_e198) rfl (tb_q6 (i := 177) rfl rfl) (tb_q1 (i := 12) rfl rfl) (tb_q6 (i := 176) rfl rfl) (by decide +kernel)
set_option maxRecDepth 1000000 in
theorem s_mok_e199 : s_mok s_e199 = true := kw_mV (e := s_e199) rfl (tb_q6 (i := 174) rfl rfl) (tb_q1 (i := 12) rfl rfl) (tb_q6 (i := 173) rfl rfl) (by decide +kernel) (by decide +kernel) (by decide +kernel)
set_option maxRecDepth 1000000 in
theorem s_mok_e200 : s_mok s_e200 = true := kw_mV (e := s_e200) rfl (tb_q6 (i := 170) rfl rfl) (tb_q1 (i := 12) rfl rfl) (tb_q6 (i := 169) rfl rfl) (by decide +kernel) (by decide +kernel) (by decide +kernel)
set_option maxRecDepth 1000000 in
theorem s_mok_e201 : s_mok s_e201 = true := kw_mV (e := s_e201) rfl (tb_q6 (i := 130) rfl rfl) (tb_q1 (i := 12) rfl rfl) (tb_q6 (i := 129) rfl rfl) (by decide +kernel) (by decide +kernel) (by decide +kernel)
set_option maxRecDepth 1000000 in
theorem s_mok_e202 : s_mok s_e202 = true := kw_mV (e := s_e202) rfl (tb_q6 (i := 197) rfl rfl) (tb_q1 (i := 12) rfl rfl) (tb_q6 (i := 196) rfl rfl) (by decide +kernel) (by decide +kernel) (by decide +kernel)
set_option maxRecDepth 1000000 in
theorem s_mok_e203 : s_mok s_e203 = true := kw_mV (e := s_e203) rfl (tb_q6 (i := 94) rfl rfl) (tb_q1 (i := 12) rfl rfl) (tb_q6 (i := 93) rfl rfl) (by decide +kernel) (by decide +kernel) (by decide +kernel)
set_option maxRecDepth 1000000 in
theorem s_mok_e204 : s_mok s_e204 = true := kw_mV (e := s_e204) rfl (tb_q6 (i := 35) rfl rfl) (tb_q1 (i := 12) rfl rfl) (tb_q6 (i := 33) rfl rfl) (tb_q6 (i := 34) rfl rfl) (by decide +kernel) (by decide +kernel)
set_option maxRecDepth 1000000 in
theorem s_mok_e205 : s_mok s_e205 = true := kw_mV (e := s_e205) rfl (tb_q6 (i := 110) rfl rfl) (tb_q1 (i := 12) rfl rfl) (tb_q6 (i := 109) rfl rfl) (by decide +kernel) (by decide +kernel) (by decide +kernel)
set_option maxRecDepth 1000000 in
theorem s_mok_e206 : s_mok s_e206 = true := kw_mV (e := s_e206) rfl (tb_q6 (i := 106) rfl rfl) (tb_q1 (i := 12) rfl rfl) (tb_q6 (i := 105) rfl rfl) (by decide +kernel) (by decide +kernel) (by decide +kernel)
set_option maxRecDepth 1000000 in
theorem s_mok_e207 : s_mok s_e207 = true := kw_mV (e := s_e207) rfl (tb_q6 (i := 98) rfl rfl) (tb_q1 (i := 12) rfl rfl) (tb_q6 (i := 96) rfl rfl) (tb_q6 (i := 97) rfl rfl) (by decide +kernel) (by decide +kernel)
