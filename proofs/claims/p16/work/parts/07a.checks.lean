set_option maxRecDepth 1000000 in
theorem s_mok_e1 : s_mok s_e1 = true := kw_mI (e := s_e1) rfl rfl (tb_q1 (i := 100) rfl rfl) (tb_q1 (i := 7) rfl rfl) (tb_q1 (i := 99) rfl rfl) (by decide +kernel)
set_option maxRecDepth 1000000 in
theorem s_mok_e2 : s_mok s_e2 = true := kw_mS (e := s_e2) rfl (tb_q3 (i := 148) rfl rfl) (tb_q1 (i := 7) rfl rfl) (tb_q3 (i := 147) rfl rfl) (by decide +kernel)
set_option maxRecDepth 1000000 in
theorem s_mok_e3 : s_mok s_e3 = true := kw_mS (e := s_e3) rfl (tb_q4 (i := 5) rfl rfl) (tb_q1 (i := 7) rfl rfl) (tb_q4 (i := 4) rfl rfl) (by decide +kernel)
set_option maxRecDepth 1000000 in
theorem s_mok_e4 : s_mok s_e4 = true := kw_mS (e := s_e4) rfl (tb_q3 (i := 79) rfl rfl) (tb_q1 (i := 7) rfl rfl) (tb_q3 (i := 78) rfl rfl) (by decide +kernel)
set_option maxRecDepth 1000000 in
theorem s_mok_e5 : s_mok s_e5 = true := kw_mV (e := s_e5) rfl (tb_q3 (i := 76) rfl rfl) (tb_q1 (i := 7) rfl rfl) (tb_q3 (i := 74) rfl rfl) (tb_q3 (i := 75) rfl rfl) (by decide +kernel) (by decide +kernel)
set_option maxRecDepth 1000000 in
theorem s_mok_e6 : s_mok s_e6 = true := kw_mV (e := s_e6) rfl (tb_q1 (i := 237) rfl rfl) (tb_q1 (i := 7) rfl rfl) (tb_q1 (i := 235) rfl rfl) (tb_q1 (i := 236) rfl rfl) (by decide +kernel) (by decide +kernel)
set_option maxRecDepth 1000000 in
theorem s_mok_e7 : s_mok s_e7 = true := kw_mV (e := s_e7) rfl (tb_q3 (i := 108) rfl rfl) (tb_q1 (i := 7) rfl rfl) (tb_q3 (i := 106) rfl rfl) (tb_q3 (i := 107) rfl rfl) (by decide +kernel) (by decide +kernel)
set_option maxRecDepth 1000000 in
theorem s_mok_e8 : s_mok s_e8 = true := kw_mV (e := s_e8) rfl (tb_q3 (i := 152) rfl rfl) (tb_q1 (i := 7) rfl rfl) (tb_q3 (i := 150) rfl rfl) (tb_q3 (i := 151) rfl rfl) (by decide +kernel) (by decide +kernel)
set_option maxRecDepth 1000000 in
theorem s_mok_e9 : s_mok s_e9 = true := kw_mV (e := s_e9) rfl (tb_q3 (i := 237) rfl rfl) (tb_q1 (i := 7) rfl rfl) (tb_q3 (i := 235) rfl rfl) (tb_q3 (i := 236) rfl rfl) (by decide +kernel) (by decide +kernel)
set_option maxRecDepth 1000000 in
theorem s_mok_e10 : s_mok s_e10 = true := kw_mV (e := s_e10) rfl (tb_q3 (i := 134) rfl rfl) (tb_q1 (i := 7) rfl rfl) (tb_q3 (i := 132) rfl rfl) (tb_q3 (i := 133) rfl rfl) (by decide +kernel) (by decide +kernel)
set_option maxRecDepth 1000000 in
theorem s_mok_e11 : s_mok s_e11 = true := kw_mV (e := s_e11) rfl (tb_q4 (i := 1) rfl rfl) (tb_q1 (i := 7) rfl rfl) (tb_q3 (i := 239) rfl rfl) (tb_q4 (i := 0) rfl rfl) (by decide +kernel) (by decide +kernel)
set_option maxRecDepth 1000000 in
theorem s_mok_e12 : s_mok s_e12 = true := kw_mI (e := s_e12) rfl rfl (tb_q1 (i := 201) rfl rfl) (tb_q1 (i := 8) rfl rfl) (tb_q1 (i := 200) rfl rfl) (by decide +kernel)
set_option maxRecDepth 1000000 in
theorem s_mok_e13 : s_mok s_e13 = true := kw_mV (e := s_e13) rfl (tb_q3 (i := 22) rfl rfl) (tb_q1 (i := 8) rfl rfl) (tb_q3 (i := 20) rfl rfl) (tb_q3 (i := 21) rfl rfl) (by decide +kernel) (by decide +kernel)
set_option maxRecDepth 1000000 in
theorem s_mok_e14 : s_mok s_e14 = true := kw_mV (e := s_e14) rfl (tb_q3 (i := 26) rfl rfl) (tb_q1 (i := 8) rfl rfl) (tb_q3 (i := 25) rfl rfl) (by decide +kernel) (by decide +kernel) (by decide +kernel)
set_option maxRecDepth 1000000 in
theorem s_mok_e15 : s_mok s_e15 = true := kw_mV (e := s_e15) rfl (tb_q4 (i := 163) rfl rfl) (tb_q1 (i := 8) rfl rfl) (tb_q4 (i := 161) rfl rfl) (tb_q4 (i := 162) rfl rfl) (by decide +kernel) (by decide +kernel)
set_option maxRecDepth 1000000 in
theorem s_mok_e16 : s_mok s_e16 = true := kw_mV (e := s_e16) rfl (tb_q4 (i := 171) rfl rfl) (tb_q1 (i := 8) rfl rfl) (tb_q4 (i := 169) rfl rfl) (tb_q4 (i := 170) rfl rfl) (by decide +kernel) (by decide +kernel)
set_option maxRecDepth 1000000 in
theorem s_mok_e17 : s_mok s_e17 = true := kw_mV (e := s_e17) rfl (tb_q4 (i := 195) rfl rfl) (tb_q1 (i := 8) rfl rfl) (tb_q4 (i := 193) rfl rfl) (tb_q4 (i := 194) rfl rfl) (by decide +kernel) (by decide +kernel)
set_option maxRecDepth 1000000 in
theorem s_mok_e18 : s_mok s_e18 = true := kw_mV (e := s_e18) rfl (tb_q4 (i := 187) rfl rfl) (tb_q1 (i := 8) rfl rfl) (tb_q4 (i := 185) rfl rfl) (tb_q4 (i := 186) rfl rfl) (by decide +kernel) (by decide +kernel)
set_option maxRecDepth 1000000 in
theorem s_mok_e19 : s_mok s_e19 = true := kw_mV (e := s_e19) rfl (tb_q4 (i := 203) rfl rfl) (tb_q1 (i := 8) rfl rfl) (tb_q4 (i := 201) rfl rfl) (tb_q4 (i := 202) rfl rfl) (by decide +kernel) (by decide +kernel)
set_option maxRecDepth 1000000 in
theorem s_mok_e20 : s_mok s_e20 = true := kw_mV (e := s_e20) rfl (tb_q4 (i := 175) rfl rfl) (tb_q1 (i := 8) rfl rfl) (tb_q4 (i := 173) rfl rfl) (tb_q4 (i := 174) rfl rfl) (by decide +kernel) (by decide +kernel)
set_option maxRecDepth 1000000 in
theorem s_mok_e21 : s_mok s_e21 = true := kw_mV (e := s_e21) rfl (tb_q4 (i := 179) rfl rfl) (tb_q1 (i := 8) rfl rfl) (tb_q4 (i := 177) rfl rfl) (tb_q4 (i := 178) rfl rfl) (by decide +kernel) (by decide +kernel)
set_option maxRecDepth 1000000 in
theorem s_mok_e22 : s_mok s_e22 = true := kw_mV (e := s_e22) rfl (tb_q4 (i := 183) rfl rfl) (tb_q1 (i := 8) rfl rfl) (tb_q4 (i := 181) rfl rfl) (tb_q4 (i := 182) rfl rfl) (by decide +kernel) (by decide +kernel)
set_option maxRecDepth 1000000 in
theorem s_mok_e23 : s_mok s_e23 = true := kw_mV (e := s_e23) rfl (tb_q4 (i := 199) rfl rfl) (tb_q1 (i := 8) rfl rfl) (tb_q4 (i := 197) rfl rfl) (tb_q4 (i := 198) rfl rfl) (by decide +kernel) (by decide +kernel)
set_option maxRecDepth 1000000 in
theorem s_mok_e24 : s_mok s_e24 = true := kw_mI (e := s_e24) rfl rfl (tb_q2 (i := 23) rfl rfl) (tb_q1 (i := 10) rfl rfl) (tb_q2 (i := 22) rfl rfl) (by decide +kernel)
set_option maxRecDepth 1000000 in
theorem s_mok_e25 : s_mok s_e25 = true := kw_mS (e := s_e25) rfl (tb_q4 (i := 210) rfl rfl) (tb_q1 (i := 10) rfl rfl) (tb_q4 (i := 209) rfl rfl) (by decide +kernel)
set_option maxRecDepth 1000000 in
theorem s_mok_e26 : s_mok s_e26 = true := kw_mS (e := s_e26) rfl (tb_q5 (i := 6) rfl rfl) (tb_q1 (i := 10) rfl rfl) (tb_q5 (i := 5) rfl rfl) (by decide +kernel)
set_option maxRecDepth 1000000 in
theorem s_mok_e27 : s_mok s_e27 = true := kw_mS (e := s_e27) rfl (tb_q5 (i := 100) rfl rfl) (tb_q1 (i := 10) rfl rfl) (tb_q5 (i := 99) rfl rfl) (by decide +kernel)
set_option maxRecDepth 1000000 in
theorem s_mok_e28 : s_mok s_e28 = true := kw_mV (e := s_e28) rfl (tb_q4 (i := 214) rfl rfl) (tb_q1 (i := 10) rfl rfl) (tb_q4 (i := 212) rfl rfl) (tb_q4 (i := 213) rfl rfl) (by decide +kernel) (by decide +kernel)
set_option maxRecDepth 1000000 in
theorem s_mok_e29 : s_mok s_e29 = true := kw_mV (e := s_e29) rfl (tb_q4 (i := 226) rfl rfl) (tb_q1 (i := 10) rfl rfl) (tb_q4 (i := 224) rfl rfl) (tb_q4 (i := 225) rfl rfl) (by decide +kernel) (by decide +kernel)
set_option maxRecDepth 1000000 in
theorem s_mok_e30 : s_mok s_e30 = true := kw_mV (e := s_e30) rfl (tb_q4 (i := 234) rfl rfl) (tb_q1 (i := 10) rfl rfl) (tb_q4 (i := 232) rfl rfl) (tb_q4 (i := 233) rfl rfl) (by decide +kernel) (by decide +kernel)
set_option maxRecDepth 1000000 in
theorem s_mok_e31 : s_mok s_e31 = true := kw_mV (e := s_e31) rfl (tb_q5 (i := 28) rfl rfl) (tb_q1 (i := 10) rfl rfl) (tb_q5 (i := 26) rfl rfl) (tb_q5 (i := 27) rfl rfl) (by decide +kernel) (by decide +kernel)
set_option maxRecDepth 1000000 in
theorem s_mok_e32 : s_mok s_e32 = true := kw_mV (e := s_e32) rfl (tb_q4 (i := 222) rfl rfl) (tb_q1 (i := 10) rfl rfl) (tb_q4 (i := 220) rfl rfl) (tb_q4 (i := 221) rfl rfl) (by decide +kernel) (by decide +kernel)
set_option maxRecDepth 1000000 in
theorem s_mok_e33 : s_mok s_e33 = true := kw_mV (e := s_e33) rfl (tb_q5 (i := 12) rfl rfl) (tb_q1 (i := 10) rfl rfl) (tb_q5 (i := 11) rfl rfl) (by decide +kernel) (by decide +kernel) (by decide +kernel)
set_option maxRecDepth 1000000 in
theorem s_mok_e34 : s_mok s_e34 = true := kw_mS (e := s_e34) rfl (tb_q5 (i := 1) rfl rfl) (tb_q1 (i := 10) rfl rfl) (tb_q5 (i := 0) rfl rfl) (by decide +kernel)
set_option maxRecDepth 1000000 in
theorem s_mok_e35 : s_mok s_e35 = true := kw_mV (e := s_e35) rfl (tb_q4 (i := 230) rfl rfl) (tb_q1 (i := 10) rfl rfl) (tb_q4 (i := 229) rfl rfl) (by decide +kernel) (by decide +kernel) (by decide +kernel)
set_option maxRecDepth 1000000 in
theorem s_mok_e36 : s_mok s_e36 = true := kw_mV (e := s_e36) rfl (tb_q4 (i := 238) rfl rfl) (tb_q1 (i := 10) rfl rfl) (tb_q4 (i := 237) rfl rfl) (by decide +kernel) (by decide +kernel) (by decide +kernel)
set_option maxRecDepth 1000000 in
theorem s_mok_e37 : s_mok s_e37 = true := kw_mV (e := s_e37) rfl (tb_q5 (i := 16) rfl rfl) (tb_q1 (i := 10) rfl rfl) (tb_q5 (i := 15) rfl rfl) (by decide +kernel) (by decide +kernel) (by decide +kernel)
set_option maxRecDepth 1000000 in
theorem s_mok_e38 : s_mok s_e38 = true := kw_mV (e := s_e38) rfl (tb_q5 (i := 20) rfl rfl) (tb_q1 (i := 10) rfl rfl) (tb_q5 (i := 19) rfl rfl) (by decide +kernel) (by decide +kernel) (by decide +kernel)
set_option maxRecDepth 1000000 in
theorem s_mok_e39 : s_mok s_e39 = true := kw_mI (e := s_e39) rfl rfl (tb_q1 (i := 66) rfl rfl) (tb_q1 (i := 4) rfl rfl) (tb_q1 (i := 65) rfl rfl) (by decide +kernel)
set_option maxRecDepth 1000000 in
theorem s_mok_e40 : s_mok s_e40 = true := kw_mV (e := s_e40) rfl (tb_q3 (i := 10) rfl rfl) (tb_q1 (i := 4) rfl rfl) (tb_q3 (i := 8) rfl rfl) (tb_q3 (i := 9) rfl rfl) (by decide +kernel) (by decide +kernel)
set_option maxRecDepth 1000000 in
theorem s_mok_e41 : s_mok s_e41 = true := kw_mV (e := s_e41) rfl (tb_q2 (i := 204) rfl rfl) (tb_q1 (i := 4) rfl rfl) (tb_q2 (i := 202) rfl rfl) (tb_q2 (i := 203) rfl rfl) (by decide +kernel) (by decide +kernel)
set_option maxRecDepth 1000000 in
theorem s_mok_e42 : s_mok s_e42 = true := kw_mV (e := s_e42) rfl (tb_q3 (i := 225) rfl rfl) (tb_q1 (i := 4) rfl rfl) (tb_q3 (i := 223) rfl rfl) (tb_q3 (i := 224) rfl rfl) (by decide +kernel) (by decide +kernel)
set_option maxRecDepth 1000000 in
theorem s_mok_e43 : s_mok s_e43 = true := kw_mV (e := s_e43) rfl (tb_q2 (i := 200) rfl rfl) (tb_q1 (i := 4) rfl rfl) (tb_q2 (i := 198) rfl rfl) (tb_q2 (i := 199) rfl rfl) (by decide +kernel) (by decide +kernel)
set_option maxRecDepth 1000000 in
theorem s_mok_e44 : s_mok s_e44 = true := kw_mV (e := s_e44) rfl (tb_q3 (i := 18) rfl rfl) (tb_q1 (i := 4) rfl rfl) (tb_q3 (i := 16) rfl rfl) (tb_q3 (i := 17) rfl rfl) (by decide +kernel) (by decide +kernel)
set_option maxRecDepth 1000000 in
theorem s_mok_e45 : s_mok s_e45 = true := kw_mV (e := s_e45) rfl (tb_q3 (i := 31) rfl rfl) (tb_q1 (i := 4) rfl rfl) (tb_q3 (i := 29) rfl rfl) (tb_q3 (i := 30) rfl rfl) (by decide +kernel) (by decide +kernel)
set_option maxRecDepth 1000000 in
theorem s_mok_e46 : s_mok s_e46 = true := kw_mV (e := s_e46) rfl (tb_q3 (i := 51) rfl rfl) (tb_q1 (i := 4) rfl rfl) (tb_q3 (i := 49) rfl rfl) (tb_q3 (i := 50) rfl rfl) (by decide +kernel) (by decide +kernel)
set_option maxRecDepth 1000000 in
theorem s_mok_e47 : s_mok s_e47 = true := kw_mV (e := s_e47) rfl (tb_q3 (i := 124) rfl rfl) (tb_q1 (i := 4) rfl rfl) (tb_q3 (i := 122) rfl rfl) (tb_q3 (i := 123) rfl rfl) (by decide +kernel) (by decide +kernel)
set_option maxRecDepth 1000000 in
theorem s_mok_e48 : s_mok s_e48 = true := kw_mV (e := s_e48) rfl (tb_q3 (i := 56) rfl rfl) (tb_q1 (i := 4) rfl rfl) (tb_q3 (i := 54) rfl rfl) (tb_q3 (i := 55) rfl rfl) (by decide +kernel) (by decide +kernel)
set_option maxRecDepth 1000000 in
theorem s_mok_e49 : s_mok s_e49 = true := kw_mV (e := s_e49) rfl (tb_q3 (i := 112) rfl rfl) (tb_q1 (i := 4) rfl rfl) (tb_q3 (i := 111) rfl rfl) (by decide +kernel) (by decide +kernel) (by decide +kernel)
set_option maxRecDepth 1000000 in
theorem s_mok_e50 : s_mok s_e50 = true := kw_mV (e := s_e50) rfl (tb_q3 (i := 120) rfl rfl) (tb_q1 (i := 4) rfl rfl) (tb_q3 (i := 118) rfl rfl) (tb_q3 (i := 119) rfl rfl) (by decide +kernel) (by decide +kernel)
set_option maxRecDepth 1000000 in
theorem s_mok_e51 : s_mok s_e51 = true := kw_mV (e := s_e51) rfl (tb_q3 (i := 129) rfl rfl) (tb_q1 (i := 4) rfl rfl) (tb_q3 (i := 127) rfl rfl) (tb_q3 (i := 128) rfl rfl) (by decide +kernel) (by decide +kernel)
set_option maxRecDepth 1000000 in
theorem s_mok_e52 : s_mok s_e52 = true := kw_mV (e := s_e52) rfl (tb_q3 (i := 160) rfl rfl) (tb_q1 (i := 4) rfl rfl) (tb_q3 (i := 158) rfl rfl) (tb_q3 (i := 159) rfl rfl) (by decide +kernel) (by decide +kernel)
set_option maxRecDepth 1000000 in
theorem s_mok_e53 : s_mok s_e53 = true := kw_mV (e := s_e53) rfl (tb_q3 (i := 212) rfl rfl) (tb_q1 (i := 4) rfl rfl) (tb_q3 (i := 210) rfl rfl) (tb_q3 (i := 211) rfl rfl) (by decide +kernel) (by decide +kernel)
set_option maxRecDepth 1000000 in
theorem s_mok_e54 : s_mok s_e54 = true := kw_mS (e := s_e54) rfl (tb_q3 (i := 216) rfl rfl) (tb_q1 (i := 4) rfl rfl) (tb_q3 (i := 215) rfl rfl) (by decide +kernel)
set_option maxRecDepth 1000000 in
theorem s_mok_e55 : s_mok s_e55 = true := kw_mV (e := s_e55) rfl (tb_q3 (i := 176) rfl rfl) (tb_q1 (i := 4) rfl rfl) (tb_q3 (i := 174) rfl rfl) (tb_q3 (i := 175) rfl rfl) (by decide +kernel) (by decide +kernel)
set_option maxRecDepth 1000000 in
theorem s_mok_e56 : s_mok s_e56 = true := kw_mV (e := s_e56) rfl (tb_q3 (i := 188) rfl rfl) (tb_q1 (i := 4) rfl rfl) (tb_q3 (i := 186) rfl rfl) (tb_q3 (i := 187) rfl rfl) (by decide +kernel) (by decide +kernel)
set_option maxRecDepth 1000000 in
theorem s_mok_e57 : s_mok s_e57 = true := kw_mV (e := s_e57) rfl (tb_q4 (i := 97) rfl rfl) (tb_q1 (i := 4) rfl rfl) (tb_q4 (i := 95) rfl rfl) (tb_q4 (i := 96) rfl rfl) (by decide +kernel) (by decide +kernel)
set_option maxRecDepth 1000000 in
theorem s_mok_e58 : s_mok s_e58 = true := kw_mV (e := s_e58) rfl (tb_q4 (i := 103) rfl rfl) (tb_q1 (i := 4) rfl rfl) (tb_q4 (i := 101) rfl rfl) (tb_q4 (i := 102) rfl rfl) (by decide +kernel) (by decide +kernel)
set_option maxRecDepth 1000000 in
theorem s_mok_e59 : s_mok s_e59 = true := kw_mV (e := s_e59) rfl (tb_q4 (i := 134) rfl rfl) (tb_q1 (i := 4) rfl rfl) (tb_q4 (i := 132) rfl rfl) (tb_q4 (i := 133) rfl rfl) (by decide +kernel) (by decide +kernel)
set_option maxRecDepth 1000000 in
theorem s_mok_e60 : s_mok s_e60 = true := kw_mI (e := s_e60) rfl rfl (tb_q1 (i := 92) rfl rfl) (tb_q1 (i := 6) rfl rfl) (tb_q1 (i := 91) rfl rfl) (by decide +kernel)
set_option maxRecDepth 1000000 in
theorem s_mok_e61 : s_mok s_e61 = true := kw_mV (e := s_e61) rfl (tb_q3 (i := 116) rfl rfl) (tb_q1 (i := 6) rfl rfl) (tb_q3 (i := 114) rfl rfl) (tb_q3 (i := 115) rfl rfl) (by decide +kernel) (by decide +kernel)
set_option maxRecDepth 1000000 in
theorem s_mok_e62 : s_mok s_e62 = true := kw_mV (e := s_e62) rfl (tb_q3 (i := 166) rfl rfl) (tb_q1 (i := 6) rfl rfl) (tb_q3 (i := 164) rfl rfl) (tb_q3 (i := 165) rfl rfl) (by decide +kernel) (by decide +kernel)
set_option maxRecDepth 1000000 in
theorem s_mok_e63 : s_mok s_e63 = true := kw_mV (e := s_e63) rfl (tb_q3 (i := 172) rfl rfl) (tb_q1 (i := 6) rfl rfl) (tb_q3 (i := 171) rfl rfl) (by decide +kernel) (by decide +kernel) (by decide +kernel)
set_option maxRecDepth 1000000 in
theorem s_mok_e64 : s_mok s_e64 = true := kw_mV (e := s_e64) rfl (tb_q3 (i := 60) rfl rfl) (tb_q1 (i := 6) rfl rfl) (tb_q3 (i := 58) rfl rfl) (tb_q3 (i := 59) rfl rfl) (by decide +kernel) (by decide +kernel)
