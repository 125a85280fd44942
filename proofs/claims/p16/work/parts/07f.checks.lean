set_option maxRecDepth 1000000 in
theorem s_mok_e250 : s_mok s_e250 = true := kw_mV (e := s_e250) rfl (tb_q7 (i := 53) rfl rfl) (tb_q1 (i := 12) rfl rfl) (tb_q7 (i := 52) rfl rfl) (by decide +kernel) (by decide +kernel) (by decide +kernel)
set_option maxRecDepth 1000000 in
theorem s_mok_e251 : s_mok s_e251 = true := kw_mV (e := s_e251) rfl (tb_q7 (i := 49) rfl rfl) (tb_q1 (i := 12) rfl rfl) (tb_q7 (i := 47) rfl rfl) (tb_q7 (i := 48) rfl rfl) (by decide +kernel) (by decide +kernel)
set_option maxRecDepth 1000000 in
theorem s_mok_e252 : s_mok s_e252 = true := kw_mV (e := s_e252) rfl (tb_q7 (i := 61) rfl rfl) (tb_q1 (i := 12) rfl rfl) (tb_q7 (i := 60) rfl rfl) (by decide +kernel) (by decide +kernel) (by decide +kernel)
set_option maxRecDepth 1000000 in
theorem s_mok_e253 : s_mok s_e253 = true := kw_mV (e := s_e253) rfl (tb_q7 (i := 65) rfl rfl) (tb_q1 (i := 12) rfl rfl) (tb_q7 (i := 64) rfl rfl) (by decide +kernel) (by decide +kernel) (by decide +kernel)
set_option maxRecDepth 1000000 in
theorem s_mok_e254 : s_mok s_e254 = true := kw_mV (e := s_e254) rfl (tb_q7 (i := 57) rfl rfl) (tb_q1 (i := 12) rfl rfl) (tb_q7 (i := 55) rfl rfl) (tb_q7 (i := 56) rfl rfl) (by decide +kernel) (by decide +kernel)
set_option maxRecDepth 1000000 in
theorem s_mok_e255 : s_mok s_e255 = true := kw_mV (e := s_e255) rfl (tb_q7 (i := 69) rfl rfl) (tb_q1 (i := 12) rfl rfl) (tb_q7 (i := 67) rfl rfl) (tb_q7 (i := 68) rfl rfl) (by decide +kernel) (by decide +kernel)
set_option maxRecDepth 1000000 in
theorem s_mok_e256 : s_mok s_e256 = true := kw_mV (e := s_e256) rfl (tb_q7 (i := 76) rfl rfl) (tb_q1 (i := 12) rfl rfl) (tb_q7 (i := 74) rfl rfl) (tb_q7 (i := 75) rfl rfl) (by decide +kernel) (by decide +kernel)
set_option maxRecDepth 1000000 in
theorem s_mok_e257 : s_mok s_e257 = true := kw_mV (e := s_e257) rfl (tb_q7 (i := 80) rfl rfl) (tb_q1 (i := 12) rfl rfl) (tb_q7 (i := 78) rfl rfl) (tb_q7 (i := 79) rfl rfl) (by decide +kernel) (by decide +kernel)
set_option maxRecDepth 1000000 in
theorem s_mok_e258 : s_mok s_e258 = true := kw_mV (e := s_e258) rfl (tb_q7 (i := 88) rfl rfl) (tb_q1 (i := 12) rfl rfl) (tb_q7 (i := 87) rfl rfl) (by decide +kernel) (by decide +kernel) (by decide +kernel)
set_option maxRecDepth 1000000 in
theorem s_mok_e259 : s_mok s_e259 = true := kw_mV (e := s_e259) rfl (tb_q7 (i := 84) rfl rfl) (tb_q1 (i := 12) rfl rfl) (tb_q7 (i := 82) rfl rfl) (tb_q7 (i := 83) rfl rfl) (by decide +kernel) (by decide +kernel)
set_option maxRecDepth 1000000 in
theorem s_mok_e260 : s_mok s_e260 = true := kw_mV (e := s_e260) rfl (tb_q7 (i := 92) rfl rfl) (tb_q1 (i := 12) rfl rfl) (tb_q7 (i := 90) rfl rfl) (tb_q7 (i := 91) rfl rfl) (by decide +kernel) (by decide +kernel)
set_option maxRecDepth 1000000 in
theorem s_mok_e261 : s_mok s_e261 = true := kw_mV (e := s_e261) rfl (tb_q7 (i := 96) rfl rfl) (tb_q1 (i := 12) rfl rfl) (tb_q7 (i := 94) rfl rfl) (tb_q7 (i := 95) rfl rfl) (by decide +kernel) (by decide +kernel)
set_option maxRecDepth 1000000 in
theorem s_mok_e262 : s_mok s_e262 = true := kw_mV (e := s_e262) rfl (tb_q7 (i := 112) rfl rfl) (tb_q1 (i := 12) rfl rfl) (tb_q7 (i := 111) rfl rfl) (by decide +kernel) (by decide +kernel) (by decide +kernel)
set_option maxRecDepth 1000000 in
theorem s_mok_e263 : s_mok s_e263 = true := kw_mV (e := s_e263) rfl (tb_q7 (i := 123) rfl rfl) (tb_q1 (i := 12) rfl rfl) (tb_q7 (i := 122) rfl rfl) (by decide +kernel) (by decide +kernel) (by decide +kernel)
set_option maxRecDepth 1000000 in
theorem s_mok_e264 : s_mok s_e264 = true := kw_mV (e := s_e264) rfl (tb_q7 (i := 100) rfl rfl) (tb_q1 (i := 12) rfl rfl) (tb_q7 (i := 98) rfl rfl) (tb_q7 (i := 99) rfl rfl) (by decide +kernel) (by decide +kernel)
set_option maxRecDepth 1000000 in
theorem s_mok_e265 : s_mok s_e265 = true := kw_mV (e := s_e265) rfl (tb_q7 (i := 104) rfl rfl) (tb_q1 (i := 12) rfl rfl) (tb_q7 (i := 102) rfl rfl) (tb_q7 (i := 103) rfl rfl) (by decide +kernel) (by decide +kernel)
set_option maxRecDepth 1000000 in
theorem s_mok_e266 : s_mok s_e266 = true := kw_mS (e := s_e266) rfl (tb_q7 (i := 119) rfl rfl) (tb_q1 (i := 12) rfl rfl) (tb_q7 (i := 118) rfl rfl) (by decide +kernel)
set_option maxRecDepth 1000000 in
theorem s_mok_e267 : s_mok s_e267 = true := kw_mV (e := s_e267) rfl (tb_q7 (i := 127) rfl rfl) (tb_q1 (i := 12) rfl rfl) (tb_q7 (i := 126) rfl rfl) (by decide +kernel) (by decide +kernel) (by decide +kernel)
set_option maxRecDepth 1000000 in
theorem s_mok_e268 : s_mok s_e268 = true := kw_mV (e := s_e268) rfl (tb_q7 (i := 131) rfl rfl) (tb_q1 (i := 12) rfl rfl) (tb_q7 (i := 130) rfl rfl) (by decide +kernel) (by decide +kernel) (by decide +kernel)
set_option maxRecDepth 1000000 in
theorem s_mok_e269 : s_mok s_e269 = true := kw_mV (e := s_e269) rfl (tb_q7 (i := 116) rfl rfl) (tb_q1 (i := 12) rfl rfl) (tb_q7 (i := 115) rfl rfl) (by decide +kernel) (by decide +kernel) (by decide +kernel)
set_option maxRecDepth 1000000 in
theorem s_mok_e270 : s_mok s_e270 = true := kw_mV (e := s_e270) rfl (tb_q7 (i := 143) rfl rfl) (tb_q1 (i := 12) rfl rfl) (tb_q7 (i := 142) rfl rfl) (by decide +kernel) (by decide +kernel) (by decide +kernel)
set_option maxRecDepth 1000000 in
theorem s_mok_e271 : s_mok s_e271 = true := kw_mV (e := s_e271) rfl (tb_q7 (i := 139) rfl rfl) (tb_q1 (i := 12) rfl rfl) (tb_q7 (i := 138) rfl rfl) (by decide +kernel) (by decide +kernel) (by decide +kernel)
set_option maxRecDepth 1000000 in
theorem s_mok_e272 : s_mok s_e272 = true := kw_mV (e := s_e272) rfl (tb_q7 (i := 135) rfl rfl) (tb_q1 (i := 12) rfl rfl) (tb_q7 (i := 134) rfl rfl) (by decide +kernel) (by decide +kernel) (by decide +kernel)
set_option maxRecDepth 1000000 in
theorem s_mok_e273 : s_mok s_e273 = true := kw_mV (e := s_e273) rfl (tb_q7 (i := 155) rfl rfl) (tb_q1 (i := 12) rfl rfl) (tb_q7 (i := 154) rfl rfl) (by decide +kernel) (by decide +kernel) (by decide +kernel)
set_option maxRecDepth 1000000 in
theorem s_mok_e274 : s_mok s_e274 = true := kw_mV (e := s_e274) rfl (tb_q7 (i := 151) rfl rfl) (tb_q1 (i := 12) rfl rfl) (tb_q7 (i := 150) rfl rfl) (by decide +kernel) (by decide +kernel) (by decide +kernel)
set_option maxRecDepth 1000000 in
theorem s_mok_e275 : s_mok s_e275 = true := kw_mV (e := s_e275) rfl (tb_q7 (i := 147) rfl rfl) (tb_q1 (i := 12) rfl rfl) (tb_q7 (i := 146) rfl rfl) (by decide +kernel) (by decide +kernel) (by decide +kernel)
set_option maxRecDepth 1000000 in
theorem s_mok_e276 : s_mok s_e276 = true := kw_mV (e := s_e276) rfl (tb_q7 (i := 163) rfl rfl) (tb_q1 (i := 12) rfl rfl) (tb_q7 (i := 162) rfl rfl) (by decide +kernel) (by decide +kernel) (by decide +kernel)
set_option maxRecDepth 1000000 in
theorem s_mok_e277 : s_mok s_e277 = true := kw_mV (e := s_e277) rfl (tb_q7 (i := 159) rfl rfl) (tb_q1 (i := 12) rfl rfl) (tb_q7 (i := 158) rfl rfl) (by decide +kernel) (by decide +kernel) (by decide +kernel)
set_option maxRecDepth 1000000 in
theorem s_mok_e278 : s_mok s_e278 = true := kw_mV (e := s_e278) rfl (tb_q7 (i := 108) rfl rfl) (tb_q1 (i := 12) rfl rfl) (tb_q7 (i := 106) rfl rfl) (tb_q7 (i := 107) rfl rfl) (by decide +kernel) (by decide +kernel)
set_option maxRecDepth 1000000 in
theorem s_mok_e279 : s_mok s_e279 = true := kw_mV (e := s_e279) rfl (tb_q7 (i := 175) rfl rfl) (tb_q1 (i := 12) rfl rfl) (tb_q7 (i := 174) rfl rfl) (by decide +kernel) (by decide +kernel) (by decide +kernel)
set_option maxRecDepth 1000000 in
theorem s_mok_e280 : s_mok s_e280 = true := kw_mV (e := s_e280) rfl (tb_q7 (i := 167) rfl rfl) (tb_q1 (i := 12) rfl rfl) (tb_q7 (i := 165) rfl rfl) (tb_q7 (i := 166) rfl rfl) (by decide +kernel) (by decide +kernel)
set_option maxRecDepth 1000000 in
theorem s_mok_e281 : s_mok s_e281 = true := kw_mS (e := s_e281) rfl (tb_q6 (i := 101) rfl rfl) (tb_q1 (i := 12) rfl rfl) (tb_q6 (i := 100) rfl rfl) (by decide +kernel)
set_option maxRecDepth 1000000 in
theorem s_mok_e282 : s_mok s_e282 = true := kw_mV (e := s_e282) rfl (tb_q7 (i := 183) rfl rfl) (tb_q1 (i := 12) rfl rfl) (tb_q7 (i := 181) rfl rfl) (tb_q7 (i := 182) rfl rfl) (by decide +kernel) (by decide +kernel)
set_option maxRecDepth 1000000 in
theorem s_mok_e283 : s_mok s_e283 = true := kw_mV (e := s_e283) rfl (tb_q7 (i := 187) rfl rfl) (tb_q1 (i := 12) rfl rfl) (tb_q7 (i := 185) rfl rfl) (tb_q7 (i := 186) rfl rfl) (by decide +kernel) (by decide +kernel)
set_option maxRecDepth 1000000 in
theorem s_mok_e284 : s_mok s_e284 = true := kw_mV (e := s_e284) rfl (tb_q7 (i := 195) rfl rfl) (tb_q1 (i := 12) rfl rfl) (tb_q7 (i := 194) rfl rfl) (by decide +kernel) (by decide +kernel) (by decide +kernel)
set_option maxRecDepth 1000000 in
theorem s_mok_e285 : s_mok s_e285 = true := kw_mV (e := s_e285) rfl (tb_q7 (i := 191) rfl rfl) (tb_q1 (i := 12) rfl rfl) (tb_q7 (i := 189) rfl rfl) (tb_q7 (i := 190) rfl rfl) (by decide +kernel) (by decide +kernel)
set_option maxRecDepth 1000000 in
theorem s_mok_e286 : s_mok s_e286 = true := kw_mV (e := s_e286) rfl (tb_q7 (i := 199) rfl rfl) (tb_q1 (i := 12) rfl rfl) (tb_q7 (i := 197) rfl rfl) (tb_q7 (i := 198) rfl rfl) (by decide +kernel) (by decide +kernel)
set_option maxRecDepth 1000000 in
theorem s_mok_e287 : s_mok s_e287 = true := kw_mV (e := s_e287) rfl (tb_q7 (i := 204) rfl rfl) (tb_q1 (i := 12) rfl rfl) (tb_q7 (i := 202) rfl rfl) (tb_q7 (i := 203) rfl rfl) (by decide +kernel) (by decide +kernel)
set_option maxRecDepth 1000000 in
theorem s_mok_e288 : s_mok s_e288 = true := kw_mV (e := s_e288) rfl (tb_q7 (i := 208) rfl rfl) (tb_q1 (i := 12) rfl rfl) (tb_q7 (i := 206) rfl rfl) (tb_q7 (i := 207) rfl rfl) (by decide +kernel) (by decide +kernel)
set_option maxRecDepth 1000000 in
theorem s_mok_e289 : s_mok s_e289 = true := kw_mS (e := s_e289) rfl (tb_q4 (i := 112) rfl rfl) (tb_q1 (i := 16) rfl rfl) (tb_q4 (i := 111) rfl rfl) (by decide +kernel)
set_option maxRecDepth 1000000 in
theorem s_mok_e290 : s_mok s_e290 = true := kw_mS (e := s_e290) rfl (tb_q3 (i := 137) rfl rfl) (tb_q1 (i := 15) rfl rfl) (tb_q3 (i := 136) rfl rfl) (by decide +kernel)
