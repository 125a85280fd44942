set_option maxRecDepth 1000000 in
theorem s_mok_e65 : s_mok s_e65 = true := kw_mV (e := s_e65) rfl (tb_q4 (i := 142) rfl rfl) (tb_q1 (i := 6) rfl rfl) (tb_q4 (i := 140) rfl rfl) (tb_q4 (i := 141) rfl rfl) (by decide +kernel) (by decide +kernel)
set_option maxRecDepth 1000000 in
theorem s_mok_e66 : s_mok s_e66 = true := kw_mV (e := s_e66) rfl (tb_q4 (i := 155) rfl rfl) (tb_q1 (i := 6) rfl rfl) (tb_q4 (i := 153) rfl rfl) (tb_q4 (i := 154) rfl rfl) (by decide +kernel) (by decide +kernel)
set_option maxRecDepth 1000000 in
theorem s_mok_e67 : s_mok s_e67 = true := kw_mI (e := s_e67) rfl rfl (tb_q1 (i := 29) rfl rfl) (tb_q1 (i := 2) rfl rfl) (tb_q1 (i := 28) rfl rfl) (by decide +kernel)
set_option maxRecDepth 1000000 in
theorem s_mok_e68 : s_mok s_e68 = true := kw_mV (e := s_e68) rfl (tb_q2 (i := 120) rfl rfl) (tb_q1 (i := 2) rfl rfl) (tb_q2 (i := 118) rfl rfl) (tb_q2 (i := 119) rfl rfl) (by decide +kernel) (by decide +kernel)
set_option maxRecDepth 1000000 in
theorem s_mok_e69 : s_mok s_e69 = true := kw_mV (e := s_e69) rfl (tb_q2 (i := 187) rfl rfl) (tb_q1 (i := 2) rfl rfl) (tb_q2 (i := 186) rfl rfl) (by decide +kernel) (by decide +kernel) (by decide +kernel)
set_option maxRecDepth 1000000 in
theorem s_mok_e70 : s_mok s_e70 = true := kw_mV (e := s_e70) rfl (tb_q2 (i := 169) rfl rfl) (tb_q1 (i := 2) rfl rfl) (tb_q2 (i := 168) rfl rfl) (by decide +kernel) (by decide +kernel) (by decide +kernel)
set_option maxRecDepth 1000000 in
theorem s_mok_e71 : s_mok s_e71 = true := kw_mV (e := s_e71) rfl (tb_q2 (i := 137) rfl rfl) (tb_q1 (i := 2) rfl rfl) (tb_q2 (i := 136) rfl rfl) (by decide +kernel) (by decide +kernel) (by decide +kernel)
set_option maxRecDepth 1000000 in
theorem s_mok_e72 : s_mok s_e72 = true := kw_mV (e := s_e72) rfl (tb_q2 (i := 141) rfl rfl) (tb_q1 (i := 2) rfl rfl) (tb_q2 (i := 140) rfl rfl) (by decide +kernel) (by decide +kernel) (by decide +kernel)
set_option maxRecDepth 1000000 in
theorem s_mok_e73 : s_mok s_e73 = true := kw_mV (e := s_e73) rfl (tb_q2 (i := 145) rfl rfl) (tb_q1 (i := 2) rfl rfl) (tb_q2 (i := 144) rfl rfl) (by decide +kernel) (by decide +kernel) (by decide +kernel)
set_option maxRecDepth 1000000 in
theorem s_mok_e74 : s_mok s_e74 = true := kw_mV (e := s_e74) rfl (tb_q2 (i := 149) rfl rfl) (tb_q1 (i := 2) rfl rfl) (tb_q2 (i := 148) rfl rfl) (by decide +kernel) (by decide +kernel) (by decide +kernel)
set_option maxRecDepth 1000000 in
theorem s_mok_e75 : s_mok s_e75 = true := kw_mV (e := s_e75) rfl (tb_q2 (i := 153) rfl rfl) (tb_q1 (i := 2) rfl rfl) (tb_q2 (i := 152) rfl rfl) (by decide +kernel) (by decide +kernel) (by decide +kernel)
set_option maxRecDepth 1000000 in
theorem s_mok_e76 : s_mok s_e76 = true := kw_mV (e := s_e76) rfl (tb_q2 (i := 157) rfl rfl) (tb_q1 (i := 2) rfl rfl) (tb_q2 (i := 156) rfl rfl) (by decide +kernel) (by decide +kernel) (by decide +kernel)
set_option maxRecDepth 1000000 in
theorem s_mok_e77 : s_mok s_e77 = true := kw_mV (e := s_e77) rfl (tb_q2 (i := 161) rfl rfl) (tb_q1 (i := 2) rfl rfl) (tb_q2 (i := 160) rfl rfl) (by decide +kernel) (by decide +kernel) (by decide +kernel)
set_option maxRecDepth 1000000 in
theorem s_mok_e78 : s_mok s_e78 = true := kw_mV (e := s_e78) rfl (tb_q2 (i := 165) rfl rfl) (tb_q1 (i := 2) rfl rfl) (tb_q2 (i := 164) rfl rfl) (by decide +kernel) (by decide +kernel) (by decide +kernel)
set_option maxRecDepth 1000000 in
theorem s_mok_e79 : s_mok s_e79 = true := kw_mV (e := s_e79) rfl (tb_q2 (i := 183) rfl rfl) (tb_q1 (i := 2) rfl rfl) (tb_q2 (i := 182) rfl rfl) (by decide +kernel) (by decide +kernel) (by decide +kernel)
set_option maxRecDepth 1000000 in
theorem s_mok_e80 : s_mok s_e80 = true := kw_mS (e := s_e80) rfl (tb_q2 (i := 179) rfl rfl) (tb_q1 (i := 2) rfl rfl) (tb_q2 (i := 178) rfl rfl) (by decide +kernel)
set_option maxRecDepth 1000000 in
theorem s_mok_e81 : s_mok s_e81 = true := kw_mS (e := s_e81) rfl (tb_q2 (i := 172) rfl rfl) (tb_q1 (i := 2) rfl rfl) (tb_q2 (i := 171) rfl rfl) (by decide +kernel)
set_option maxRecDepth 1000000 in
theorem s_mok_e82 : s_mok s_e82 = true := kw_mI (e := s_e82) rfl rfl (tb_q2 (i := 45) rfl rfl) (tb_q1 (i := 11) rfl rfl) (tb_q2 (i := 44) rfl rfl) (by decide +kernel)
set_option maxRecDepth 1000000 in
theorem s_mok_e83 : s_mok s_e83 = true := kw_mS (e := s_e83) rfl (tb_q5 (i := 48) rfl rfl) (tb_q1 (i := 11) rfl rfl) (tb_q5 (i := 47) rfl rfl) (by decide +kernel)
set_option maxRecDepth 1000000 in
theorem s_mok_e84 : s_mok s_e84 = true := kw_mV (e := s_e84) rfl (tb_q2 (i := 224) rfl rfl) (tb_q1 (i := 11) rfl rfl) (tb_q2 (i := 222) rfl rfl) (tb_q2 (i := 223) rfl rfl) (by decide +kernel) (by decide +kernel)
set_option maxRecDepth 1000000 in
theorem s_mok_e85 : s_mok s_e85 = true := kw_mV (e := s_e85) rfl (tb_q5 (i := 64) rfl rfl) (tb_q1 (i := 11) rfl rfl) (tb_q5 (i := 62) rfl rfl) (tb_q5 (i := 63) rfl rfl) (by decide +kernel) (by decide +kernel)
set_option maxRecDepth 1000000 in
theorem s_mok_e86 : s_mok s_e86 = true := kw_mV (e := s_e86) rfl (tb_q5 (i := 37) rfl rfl) (tb_q1 (i := 11) rfl rfl) (tb_q5 (i := 35) rfl rfl) (tb_q5 (i := 36) rfl rfl) (by decide +kernel) (by decide +kernel)
set_option maxRecDepth 1000000 in
theorem s_mok_e87 : s_mok s_e87 = true := kw_mV (e := s_e87) rfl (tb_q5 (i := 41) rfl rfl) (tb_q1 (i := 11) rfl rfl) (tb_q5 (i := 39) rfl rfl) (tb_q5 (i := 40) rfl rfl) (by decide +kernel) (by decide +kernel)
set_option maxRecDepth 1000000 in
theorem s_mok_e88 : s_mok s_e88 = true := kw_mV (e := s_e88) rfl (tb_q5 (i := 52) rfl rfl) (tb_q1 (i := 11) rfl rfl) (tb_q5 (i := 50) rfl rfl) (tb_q5 (i := 51) rfl rfl) (by decide +kernel) (by decide +kernel)
set_option maxRecDepth 1000000 in
theorem s_mok_e89 : s_mok s_e89 = true := kw_mV (e := s_e89) rfl (tb_q5 (i := 69) rfl rfl) (tb_q1 (i := 11) rfl rfl) (tb_q5 (i := 67) rfl rfl) (tb_q5 (i := 68) rfl rfl) (by decide +kernel) (by decide +kernel)
set_option maxRecDepth 1000000 in
theorem s_mok_e90 : s_mok s_e90 = true := kw_mV (e := s_e90) rfl (tb_q2 (i := 232) rfl rfl) (tb_q1 (i := 11) rfl rfl) (tb_q2 (i := 230) rfl rfl) (tb_q2 (i := 231) rfl rfl) (by decide +kernel) (by decide +kernel)
set_option maxRecDepth 1000000 in
theorem s_mok_e91 : s_mok s_e91 = true := kw_mV (e := s_e91) rfl (tb_q5 (i := 73) rfl rfl) (tb_q1 (i := 11) rfl rfl) (tb_q5 (i := 71) rfl rfl) (tb_q5 (i := 72) rfl rfl) (by decide +kernel) (by decide +kernel)
set_option maxRecDepth 1000000 in
theorem s_mok_e92 : s_mok s_e92 = true := kw_mV (e := s_e92) rfl (tb_q5 (i := 77) rfl rfl) (tb_q1 (i := 11) rfl rfl) (tb_q5 (i := 76) rfl rfl) (by decide +kernel) (by decide +kernel) (by decide +kernel)
set_option maxRecDepth 1000000 in
theorem s_mok_e93 : s_mok s_e93 = true := kw_mV (e := s_e93) rfl (tb_q5 (i := 90) rfl rfl) (tb_q1 (i := 11) rfl rfl) (tb_q5 (i := 88) rfl rfl) (tb_q5 (i := 89) rfl rfl) (by decide +kernel) (by decide +kernel)
set_option maxRecDepth 1000000 in
theorem s_mok_e94 : s_mok s_e94 = true := kw_mV (e := s_e94) rfl (tb_q3 (i := 192) rfl rfl) (tb_q1 (i := 11) rfl rfl) (tb_q3 (i := 190) rfl rfl) (tb_q3 (i := 191) rfl rfl) (by decide +kernel) (by decide +kernel)
set_option maxRecDepth 1000000 in
theorem s_mok_e95 : s_mok s_e95 = true := kw_mV (e := s_e95) rfl (tb_q3 (i := 196) rfl rfl) (tb_q1 (i := 11) rfl rfl) (tb_q3 (i := 194) rfl rfl) (tb_q3 (i := 195) rfl rfl) (by decide +kernel) (by decide +kernel)
set_option maxRecDepth 1000000 in
theorem s_mok_e96 : s_mok s_e96 = true := kw_mV (e := s_e96) rfl (tb_q4 (i := 18) rfl rfl) (tb_q1 (i := 11) rfl rfl) (tb_q4 (i := 16) rfl rfl) (tb_q4 (i := 17) rfl rfl) (by decide +kernel) (by decide +kernel)
set_option maxRecDepth 1000000 in
theorem s_mok_e97 : s_mok s_e97 = true := kw_mV (e := s_e97) rfl (tb_q3 (i := 200) rfl rfl) (tb_q1 (i := 11) rfl rfl) (tb_q3 (i := 198) rfl rfl) (tb_q3 (i := 199) rfl rfl) (by decide +kernel) (by decide +kernel)
set_option maxRecDepth 1000000 in
theorem s_mok_e98 : s_mok s_e98 = true := kw_mV (e := s_e98) rfl (tb_q3 (i := 206) rfl rfl) (tb_q1 (i := 11) rfl rfl) (tb_q3 (i := 204) rfl rfl) (tb_q3 (i := 205) rfl rfl) (by decide +kernel) (by decide +kernel)
set_option maxRecDepth 1000000 in
theorem s_mok_e99 : s_mok s_e99 = true := kw_mI (e := s_e99) rfl rfl (tb_q1 (i := 35) rfl rfl) (tb_q1 (i := 3) rfl rfl) (tb_q1 (i := 34) rfl rfl) (by decide +kernel)
set_option maxRecDepth 1000000 in
theorem s_mok_e100 : s_mok s_e100 = true := kw_mV (e := s_e100) rfl (tb_q2 (i := 133) rfl rfl) (tb_q1 (i := 3) rfl rfl) (tb_q2 (i := 131) rfl rfl) (tb_q2 (i := 132) rfl rfl) (by decide +kernel) (by decide +kernel)
set_option maxRecDepth 1000000 in
theorem s_mok_e101 : s_mok s_e101 = true := kw_mV (e := s_e101) rfl (tb_q2 (i := 192) rfl rfl) (tb_q1 (i := 3) rfl rfl) (tb_q2 (i := 190) rfl rfl) (tb_q2 (i := 191) rfl rfl) (by decide +kernel) (by decide +kernel)
set_option maxRecDepth 1000000 in
theorem s_mok_e102 : s_mok s_e102 = true := kw_mV (e := s_e102) rfl (tb_q2 (i := 176) rfl rfl) (tb_q1 (i := 3) rfl rfl) (tb_q2 (i := 174) rfl rfl) (tb_q2 (i := 175) rfl rfl) (by decide +kernel) (by decide +kernel)
set_option maxRecDepth 1000000 in
theorem s_mok_e103 : s_mok s_e103 = true := kw_mV (e := s_e103) rfl (tb_q2 (i := 196) rfl rfl) (tb_q1 (i := 3) rfl rfl) (tb_q2 (i := 194) rfl rfl) (tb_q2 (i := 195) rfl rfl) (by decide +kernel) (by decide +kernel)
set_option maxRecDepth 1000000 in
theorem s_mok_e104 : s_mok s_e104 = true := kw_mV (e := s_e104) rfl (tb_q2 (i := 208) rfl rfl) (tb_q1 (i := 3) rfl rfl) (tb_q2 (i := 206) rfl rfl) (tb_q2 (i := 207) rfl rfl) (by decide +kernel) (by decide +kernel)
set_option maxRecDepth 1000000 in
theorem s_mok_e105 : s_mok s_e105 = true := kw_mV (e := s_e105) rfl (tb_q3 (i := 83) rfl rfl) (tb_q1 (i := 3) rfl rfl) (tb_q3 (i := 81) rfl rfl) (tb_q3 (i := 82) rfl rfl) (by decide +kernel) (by decide +kernel)
set_option maxRecDepth 1000000 in
theorem s_mok_e106 : s_mok s_e106 = true := kw_mV (e := s_e106) rfl (tb_q3 (i := 88) rfl rfl) (tb_q1 (i := 3) rfl rfl) (tb_q3 (i := 87) rfl rfl) (by decide +kernel) (by decide +kernel) (by decide +kernel)
set_option maxRecDepth 1000000 in
theorem s_mok_e107 : s_mok s_e107 = true := kw_mS (e := s_e107) rfl (tb_q3 (i := 104) rfl rfl) (tb_q1 (i := 3) rfl rfl) (tb_q3 (i := 103) rfl rfl) (by decide +kernel)
set_option maxRecDepth 1000000 in
theorem s_mok_e108 : s_mok s_e108 = true := kw_mV (e := s_e108) rfl (tb_q3 (i := 92) rfl rfl) (tb_q1 (i := 3) rfl rfl) (tb_q3 (i := 91) rfl rfl) (by decide +kernel) (by decide +kernel) (by decide +kernel)
set_option maxRecDepth 1000000 in
theorem s_mok_e109 : s_mok s_e109 = true := kw_mS (e := s_e109) rfl (tb_q3 (i := 95) rfl rfl) (tb_q1 (i := 3) rfl rfl) (tb_q3 (i := 94) rfl rfl) (by decide +kernel)
set_option maxRecDepth 1000000 in
theorem s_mok_e110 : s_mok s_e110 = true := kw_mS (e := s_e110) rfl (tb_q3 (i := 101) rfl rfl) (tb_q1 (i := 3) rfl rfl) (tb_q3 (i := 100) rfl rfl) (by decide +kernel)
set_option maxRecDepth 1000000 in
theorem s_mok_e111 : s_mok s_e111 = true := kw_mS (e := s_e111) rfl (tb_q3 (i := 98) rfl rfl) (tb_q1 (i := 3) rfl rfl) (tb_q3 (i := 97) rfl rfl) (by decide +kernel)
set_option maxRecDepth 1000000 in
theorem s_mok_e112 : s_mok s_e112 = true := kw_mI (e := s_e112) rfl rfl (tb_q1 (i := 227) rfl rfl) (tb_q1 (i := 9) rfl rfl) (tb_q1 (i := 226) rfl rfl) (by decide +kernel)
set_option maxRecDepth 1000000 in
theorem s_mok_e113 : s_mok s_e113 = true := kw_mV (e := s_e113) rfl (tb_q4 (i := 24) rfl rfl) (tb_q1 (i := 9) rfl rfl) (tb_q4 (i := 22) rfl rfl) (tb_q4 (i := 23) rfl rfl) (by decide +kernel) (by decide +kernel)
set_option maxRecDepth 1000000 in
theorem s_mok_e114 : s_mok s_e114 = true := kw_mS (e := s_e114) rfl (tb_q4 (i := 34) rfl rfl) (tb_q1 (i := 9) rfl rfl) (tb_q4 (i := 33) rfl rfl) (by decide +kernel)
set_option maxRecDepth 1000000 in
theorem s_mok_e115 : s_mok s_e115 = true := kw_mV (e := s_e115) rfl (tb_q4 (i := 29) rfl rfl) (tb_q1 (i := 9) rfl rfl) (tb_q4 (i := 28) rfl rfl) (by decide +kernel) (by decide +kernel) (by decide +kernel)
set_option maxRecDepth 1000000 in
theorem s_mok_e116 : s_mok s_e116 = true := kw_mV (e := s_e116) rfl (tb_q4 (i := 46) rfl rfl) (tb_q1 (i := 9) rfl rfl) (tb_q4 (i := 45) rfl rfl) (by decide +kernel) (by decide +kernel) (by decide +kernel)
set_option maxRecDepth 1000000 in
theorem s_mok_e117 : s_mok s_e117 = true := kw_mV (e := s_e117) rfl (tb_q4 (i := 72) rfl rfl) (tb_q1 (i := 9) rfl rfl) (tb_q4 (i := 71) rfl rfl) (by decide +kernel) (by decide +kernel) (by decide +kernel)
set_option maxRecDepth 1000000 in
theorem s_mok_e118 : s_mok s_e118 = true := kw_mV (e := s_e118) rfl (tb_q4 (i := 50) rfl rfl) (tb_q1 (i := 9) rfl rfl) (tb_q4 (i := 49) rfl rfl) (by decide +kernel) (by decide +kernel) (by decide +kernel)
set_option maxRecDepth 1000000 in
theorem s_mok_e119 : s_mok s_e119 = true := kw_mV (e := s_e119) rfl (tb_q4 (i := 68) rfl rfl) (tb_q1 (i := 9) rfl rfl) (tb_q4 (i := 67) rfl rfl) (by decide +kernel) (by decide +kernel) (by decide +kernel)
set_option maxRecDepth 1000000 in
theorem s_mok_e120 : s_mok s_e120 = true := kw_mV (e := s_e120) rfl (tb_q4 (i := 39) rfl rfl) (tb_q1 (i := 9) rfl rfl) (tb_q4 (i := 37) rfl rfl) (tb_q4 (i := 38) rfl rfl) (by decide +kernel) (by decide +kernel)
set_option maxRecDepth 1000000 in
theorem s_mok_e121 : s_mok s_e121 = true := kw_mV (e := s_e121) rfl (tb_q4 (i := 55) rfl rfl) (tb_q1 (i := 9) rfl rfl) (tb_q4 (i := 54) rfl rfl) (by decide +kernel) (by decide +kernel) (by decide +kernel)
set_option maxRecDepth 1000000 in
theorem s_mok_e122 : s_mok s_e122 = true := kw_mV (e := s_e122) rfl (tb_q4 (i := 60) rfl rfl) (tb_q1 (i := 9) rfl rfl) (tb_q4 (i := 59) rfl rfl) (by decide +kernel) (by decide +kernel) (by decide +kernel)
set_option maxRecDepth 1000000 in
theorem s_mok_e123 : s_mok s_e123 = true := kw_mV (e := s_e123) rfl (tb_q4 (i := 80) rfl rfl) (tb_q1 (i := 9) rfl rfl) (tb_q4 (i := 78) rfl rfl) (tb_q4 (i := 79) rfl rfl) (by decide +kernel) (by decide +kernel)
set_option maxRecDepth 1000000 in
theorem s_mok_e124 : s_mok s_e124 = true := kw_mV (e := s_e124) rfl (tb_q4 (i := 85) rfl rfl) (tb_q1 (i := 9) rfl rfl) (tb_q4 (i := 84) rfl rfl) (by decide +kernel) (by decide +kernel) (by decide +kernel)
set_option maxRecDepth 1000000 in
theorem s_mok_e125 : s_mok s_e125 = true := kw_mV (e := s_e125) rfl (tb_q4 (i := 89) rfl rfl) (tb_q1 (i := 9) rfl rfl) (tb_q4 (i := 88) rfl rfl) (by decide +kernel) (by decide +kernel) (by decide +kernel)
