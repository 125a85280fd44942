set_option maxRecDepth 1000000 in
theorem s_mok_e208 : s_mok s_e208 = true := kw_mV (e := s_e208) rfl (tb_q6 (i := 138) rfl rfl) (tb_q1 (i := 12) rfl rfl) (tb_q6 (i := 137) rfl rfl) (by decide +kernel) (by decide +kernel) (by decide +kernel)
set_option maxRecDepth 1000000 in
theorem s_mok_e209 : s_mok s_e209 = true := kw_mV (e := s_e209) rfl (tb_q6 (i := 118) rfl rfl) (tb_q1 (i := 12) rfl rfl) (tb_q6 (i := 117) rfl rfl) (by decide +kernel) (by decide +kernel) (by decide +kernel)
set_option maxRecDepth 1000000 in
theorem s_mok_e210 : s_mok s_e210 = true := kw_mV (e := s_e210) rfl (tb_q6 (i := 134) rfl rfl) (tb_q1 (i := 12) rfl rfl) (tb_q6 (i := 133) rfl rfl) (by decide +kernel) (by decide +kernel) (by decide +kernel)
set_option maxRecDepth 1000000 in
theorem s_mok_e211 : s_mok s_e211 = true := kw_mV (e := s_e211) rfl (tb_q6 (i := 114) rfl rfl) (tb_q1 (i := 12) rfl rfl) (tb_q6 (i := 112) rfl rfl) (tb_q6 (i := 113) rfl rfl) (by decide +kernel) (by decide +kernel)
set_option maxRecDepth 1000000 in
theorem s_mok_e212 : s_mok s_e212 = true := kw_mV (e := s_e212) rfl (tb_q6 (i := 122) rfl rfl) (tb_q1 (i := 12) rfl rfl) (tb_q6 (i := 120) rfl rfl) (tb_q6 (i := 121) rfl rfl) (by decide +kernel) (by decide +kernel)
set_option maxRecDepth 1000000 in
theorem s_mok_e213 : s_mok s_e213 = true := kw_mV (e := s_e213) rfl (tb_q6 (i := 126) rfl rfl) (tb_q1 (i := 12) rfl rfl) (tb_q6 (i := 124) rfl rfl) (tb_q6 (i := 125) rfl rfl) (by decide +kernel) (by decide +kernel)
set_option maxRecDepth 1000000 in
theorem s_mok_e214 : s_mok s_e214 = true := kw_mV (e := s_e214) rfl (tb_q6 (i := 143) rfl rfl) (tb_q1 (i := 12) rfl rfl) (tb_q6 (i := 141) rfl rfl) (tb_q6 (i := 142) rfl rfl) (by decide +kernel) (by decide +kernel)
set_option maxRecDepth 1000000 in
theorem s_mok_e215 : s_mok s_e215 = true := kw_mV (e := s_e215) rfl (tb_q6 (i := 151) rfl rfl) (tb_q1 (i := 12) rfl rfl) (tb_q6 (i := 150) rfl rfl) (by decide +kernel) (by decide +kernel) (by decide +kernel)
set_option maxRecDepth 1000000 in
theorem s_mok_e216 : s_mok s_e216 = true := kw_mV (e := s_e216) rfl (tb_q6 (i := 189) rfl rfl) (tb_q1 (i := 12) rfl rfl) (tb_q6 (i := 188) rfl rfl) (by decide +kernel) (by decide +kernel) (by decide +kernel)
set_option maxRecDepth 1000000 in
theorem s_mok_e217 : s_mok s_e217 = true := kw_mV (e := s_e217) rfl (tb_q6 (i := 185) rfl rfl) (tb_q1 (i := 12) rfl rfl) (tb_q6 (i := 184) rfl rfl) (by decide +kernel) (by decide +kernel) (by decide +kernel)
set_option maxRecDepth 1000000 in
theorem s_mok_e218 : s_mok s_e218 = true := kw_mV (e := s_e218) rfl (tb_q6 (i := 193) rfl rfl) (tb_q1 (i := 12) rfl rfl) (tb_q6 (i := 192) rfl rfl) (by decide +kernel) (by decide +kernel) (by decide +kernel)
set_option maxRecDepth 1000000 in
theorem s_mok_e219 : s_mok s_e219 = true := kw_mV (e := s_e219) rfl (tb_q6 (i := 181) rfl rfl) (tb_q1 (i := 12) rfl rfl) (tb_q6 (i := 180) rfl rfl) (by decide +kernel) (by decide +kernel) (by decide +kernel)
set_option maxRecDepth 1000000 in
theorem s_mok_e220 : s_mok s_e220 = true := kw_mS (e := s_e220) rfl (tb_q6 (i := 166) rfl rfl) (tb_q1 (i := 12) rfl rfl) (tb_q6 (i := 165) rfl rfl) (by decide +kernel)
set_option maxRecDepth 1000000 in
theorem s_mok_e221 : s_mok s_e221 = true := kw_mV (e := s_e221) rfl (tb_q6 (i := 163) rfl rfl) (tb_q1 (i := 12) rfl rfl) (tb_q6 (i := 162) rfl rfl) (by decide +kernel) (by decide +kernel) (by decide +kernel)
set_option maxRecDepth 1000000 in
theorem s_mok_e222 : s_mok s_e222 = true := kw_mV (e := s_e222) rfl (tb_q6 (i := 159) rfl rfl) (tb_q1 (i := 12) rfl rfl) (tb_q6 (i := 158) rfl rfl) (by decide +kernel) (by decide +kernel) (by decide +kernel)
set_option maxRecDepth 1000000 in
theorem s_mok_e223 : s_mok s_e223 = true := kw_mV (e := s_e223) rfl (tb_q6 (i := 155) rfl rfl) (tb_q1 (i := 12) rfl rfl) (tb_q6 (i := 154) rfl rfl) (by decide +kernel) (by decide +kernel) (by decide +kernel)
set_option maxRecDepth 1000000 in
theorem s_mok_e224 : s_mok s_e224 = true := kw_mS (e := s_e224) rfl (tb_q6 (i := 207) rfl rfl) (tb_q1 (i := 12) rfl rfl) (tb_q6 (i := 206) rfl rfl) (by decide +kernel)
set_option maxRecDepth 1000000 in
theorem s_mok_e225 : s_mok s_e225 = true := kw_mS (e := s_e225) rfl (tb_q7 (i := 21) rfl rfl) (tb_q1 (i := 12) rfl rfl) (tb_q7 (i := 20) rfl rfl) (by decide +kernel)
set_option maxRecDepth 1000000 in
theorem s_mok_e226 : s_mok s_e226 = true := kw_mS (e := s_e226) rfl (tb_q6 (i := 204) rfl rfl) (tb_q1 (i := 12) rfl rfl) (tb_q6 (i := 203) rfl rfl) (by decide +kernel)
set_option maxRecDepth 1000000 in
theorem s_mok_e227 : s_mok s_e227 = true := kw_mV (e := s_e227) rfl (tb_q7 (i := 179) rfl rfl) (tb_q1 (i := 12) rfl rfl) (tb_q7 (i := 178) rfl rfl) (by decide +kernel) (by decide +kernel) (by decide +kernel)
set_option maxRecDepth 1000000 in
theorem s_mok_e228 : s_mok s_e228 = true := kw_mV (e := s_e228) rfl (tb_q7 (i := 171) rfl rfl) (tb_q1 (i := 12) rfl rfl) (tb_q7 (i := 170) rfl rfl) (by decide +kernel) (by decide +kernel) (by decide +kernel)
set_option maxRecDepth 1000000 in
theorem s_mok_e229 : s_mok s_e229 = true := kw_mV (e := s_e229) rfl (tb_q6 (i := 147) rfl rfl) (tb_q1 (i := 12) rfl rfl) (tb_q6 (i := 145) rfl rfl) (tb_q6 (i := 146) rfl rfl) (by decide +kernel) (by decide +kernel)
set_option maxRecDepth 1000000 in
theorem s_mok_e230 : s_mok s_e230 = true := kw_mS (e := s_e230) rfl (tb_q6 (i := 222) rfl rfl) (tb_q1 (i := 12) rfl rfl) (tb_q6 (i := 221) rfl rfl) (by decide +kernel)
set_option maxRecDepth 1000000 in
theorem s_mok_e231 : s_mok s_e231 = true := kw_mV (e := s_e231) rfl (tb_q6 (i := 219) rfl rfl) (tb_q1 (i := 12) rfl rfl) (tb_q6 (i := 218) rfl rfl) (by decide +kernel) (by decide +kernel) (by decide +kernel)
set_option maxRecDepth 1000000 in
theorem s_mok_e232 : s_mok s_e232 = true := kw_mV (e := s_e232) rfl (tb_q6 (i := 215) rfl rfl) (tb_q1 (i := 12) rfl rfl) (tb_q6 (i := 214) rfl rfl) (by decide +kernel) (by decide +kernel) (by decide +kernel)
set_option maxRecDepth 1000000 in
theorem s_mok_e233 : s_mok s_e233 = true := kw_mV (e := s_e233) rfl (tb_q7 (i := 10) rfl rfl) (tb_q1 (i := 12) rfl rfl) (tb_q7 (i := 9) rfl rfl) (by decide +kernel) (by decide +kernel) (by decide +kernel)
set_option maxRecDepth 1000000 in
theorem s_mok_e234 : s_mok s_e234 = true := kw_mV (e := s_e234) rfl (tb_q6 (i := 201) rfl rfl) (tb_q1 (i := 12) rfl rfl) (tb_q6 (i := 199) rfl rfl) (tb_q6 (i := 200) rfl rfl) (by decide +kernel) (by decide +kernel)
set_option maxRecDepth 1000000 in
theorem s_mok_e235 : s_mok s_e235 = true := kw_mV (e := s_e235) rfl (tb_q6 (i := 211) rfl rfl) (tb_q1 (i := 12) rfl rfl) (tb_q6 (i := 209) rfl rfl) (tb_q6 (i := 210) rfl rfl) (by decide +kernel) (by decide +kernel)
set_option maxRecDepth 1000000 in
theorem s_mok_e236 : s_mok s_e236 = true := kw_mV (e := s_e236) rfl (tb_q6 (i := 230) rfl rfl) (tb_q1 (i := 12) rfl rfl) (tb_q6 (i := 229) rfl rfl) (by decide +kernel) (by decide +kernel) (by decide +kernel)
set_option maxRecDepth 1000000 in
theorem s_mok_e237 : s_mok s_e237 = true := kw_mV (e := s_e237) rfl (tb_q7 (i := 2) rfl rfl) (tb_q1 (i := 12) rfl rfl) (tb_q7 (i := 1) rfl rfl) (by decide +kernel) (by decide +kernel) (by decide +kernel)
set_option maxRecDepth 1000000 in
theorem s_mok_e238 : s_mok s_e238 = true := kw_mV (e := s_e238) rfl (tb_q7 (i := 6) rfl rfl) (tb_q1 (i := 12) rfl rfl) (tb_q7 (i := 5) rfl rfl) (by decide +kernel) (by decide +kernel) (by decide +kernel)
set_option maxRecDepth 1000000 in
theorem s_mok_e239 : s_mok s_e239 = true := kw_mV (e := s_e239) rfl (tb_q6 (i := 238) rfl rfl) (tb_q1 (i := 12) rfl rfl) (tb_q6 (i := 237) rfl rfl) (by decide +kernel) (by decide +kernel) (by decide +kernel)
set_option maxRecDepth 1000000 in
theorem s_mok_e240 : s_mok s_e240 = true := kw_mV (e := s_e240) rfl (tb_q6 (i := 234) rfl rfl) (tb_q1 (i := 12) rfl rfl) (tb_q6 (i := 233) rfl rfl) (by decide +kernel) (by decide +kernel) (by decide +kernel)
set_option maxRecDepth 1000000 in
theorem s_mok_e241 : s_mok s_e241 = true := kw_mV (e := s_e241) rfl (tb_q6 (i := 226) rfl rfl) (tb_q1 (i := 12) rfl rfl) (tb_q6 (i := 224) rfl rfl) (tb_q6 (i := 225) rfl rfl) (by decide +kernel) (by decide +kernel)
set_option maxRecDepth 1000000 in
theorem s_mok_e242 : s_mok s_e242 = true := kw_mV (e := s_e242) rfl (tb_q7 (i := 14) rfl rfl) (tb_q1 (i := 12) rfl rfl) (tb_q7 (i := 12) rfl rfl) (tb_q7 (i := 13) rfl rfl) (by decide +kernel) (by decide +kernel)
set_option maxRecDepth 1000000 in
theorem s_mok_e243 : s_mok s_e243 = true := kw_mV (e := s_e243) rfl (tb_q7 (i := 18) rfl rfl) (tb_q1 (i := 12) rfl rfl) (tb_q7 (i := 16) rfl rfl) (tb_q7 (i := 17) rfl rfl) (by decide +kernel) (by decide +kernel)
set_option maxRecDepth 1000000 in
theorem s_mok_e244 : s_mok s_e244 = true := kw_mV (e := s_e244) rfl (tb_q7 (i := 37) rfl rfl) (tb_q1 (i := 12) rfl rfl) (tb_q7 (i := 36) rfl rfl) (by decide +kernel) (by decide +kernel) (by decide +kernel)
set_option maxRecDepth 1000000 in
theorem s_mok_e245 : s_mok s_e245 = true := kw_mV (e := s_e245) rfl (tb_q7 (i := 33) rfl rfl) (tb_q1 (i := 12) rfl rfl) (tb_q7 (i := 32) rfl rfl) (by decide +kernel) (by decide +kernel) (by decide +kernel)
set_option maxRecDepth 1000000 in
theorem s_mok_e246 : s_mok s_e246 = true := kw_mV (e := s_e246) rfl (tb_q7 (i := 45) rfl rfl) (tb_q1 (i := 12) rfl rfl) (tb_q7 (i := 44) rfl rfl) (by decide +kernel) (by decide +kernel) (by decide +kernel)
set_option maxRecDepth 1000000 in
theorem s_mok_e247 : s_mok s_e247 = true := kw_mV (e := s_e247) rfl (tb_q7 (i := 41) rfl rfl) (tb_q1 (i := 12) rfl rfl) (tb_q7 (i := 40) rfl rfl) (by decide +kernel) (by decide +kernel) (by decide +kernel)
set_option maxRecDepth 1000000 in
theorem s_mok_e248 : s_mok s_e248 = true := kw_mV (e := s_e248) rfl (tb_q7 (i := 29) rfl rfl) (tb_q1 (i := 12) rfl rfl) (tb_q7 (i := 28) rfl rfl) (by decide +kernel) (by decide +kernel) (by decide +kernel)
set_option maxRecDepth 1000000 in
theorem s_mok_e249 : s_mok s_e249 = true := kw_mV (e := s_e249) rfl (tb_q7 (i := 25) rfl rfl) (tb_q1 (i := 12) rfl rfl) (tb_q7 (i := 23) rfl rfl) (tb_q7 (i := 24) rfl rfl) (by decide +kernel) (by decide +kernel)
