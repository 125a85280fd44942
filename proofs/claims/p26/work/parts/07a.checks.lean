set_option maxRecDepth 100000 in
theorem s_mok_e1 : s_mok s_e1 = true := by decide +kernel
set_option maxRecDepth 100000 in
theorem s_mok_e2 : s_mok s_e2 = true := by decide +kernel
set_option maxRecDepth 100000 in
theorem s_mok_e3 : s_mok s_e3 = true := by decide +kernel
set_option maxRecDepth 100000 in
theorem s_mok_e4 : s_mok s_e4 = true := by decide +kernel
set_option maxRecDepth 100000 in
theorem s_mok_e5 : s_mok s_e5 = true := by decide +kernel
set_option maxRecDepth 100000 in
theorem s_mok_e6 : s_mok s_e6 = true := by decide +kernel
set_option maxRecDepth 100000 in
theorem s_mok_e7 : s_mok s_e7 = true := by decide +kernel
set_option maxRecDepth 100000 in
theorem s_mok_e8 : s_mok s_e8 = true := by decide +kernel
set_option maxRecDepth 100000 in
theorem s_mok_e9 : s_mok s_e9 = true := by decide +kernel
set_option maxRecDepth 100000 in
theorem s_mok_e10 : s_mok s_e10 = true := by decide +kernel
set_option maxRecDepth 100000 in
theorem s_mok_e11 : s_mok s_e11 = true := by decide +kernel
set_option maxRecDepth 100000 in
theorem s_mok_e12 : s_mok s_e12 = true := by decide +kernel
set_option maxRecDepth 100000 in
theorem s_mok_e13 : s_mok s_e13 = true := by decide +kernel
set_option maxRecDepth 100000 in
theorem s_mok_e14 : s_mok s_e14 = true := by decide +kernel
set_option maxRecDepth 100000 in
theorem s_mok_e15 : s_mok s_e15 = true := by decide +kernel
set_option maxRecDepth 100000 in
theorem s_mok_e16 : s_mok s_e16 = true := by decide +kernel
set_option maxRecDepth 100000 in
theorem s_mok_e17 : s_mok s_e17 = true := by decide +kernel
set_option maxRecDepth 100000 in
theorem s_mok_e18 : s_mok s_e18 = true := by decide +kernel
set_option maxRecDepth 100000 in
theorem s_mok_e19 : s_mok s_e19 = true := by decide +kernel
set_option maxRecDepth 100000 in
theorem s_mok_e20 : s_mok s_e20 = true := by decide +kernel
set_option maxRecDepth 100000 in
theorem s_mok_e21 : s_mok s_e21 = true := by decide +kernel
set_option maxRecDepth 100000 in
theorem s_mok_e22 : s_mok s_e22 = true := by decide +kernel
set_option maxRecDepth 100000 in
theorem s_mok_e23 : s_mok s_e23 = true := by decide +kernel
set_option maxRecDepth 100000 in
theorem s_mok_e24 : s_mok s_e24 = true := by decide +kernel
set_option maxRecDepth 100000 in
theorem s_mok_e25 : s_mok s_e25 = true := by decide +kernel
set_option maxRecDepth 100000 in
theorem s_mok_e26 : s_mok s_e26 = true := by decide +kernel
set_option maxRecDepth 100000 in
theorem s_mok_e27 : s_mok s_e27 = true := by decide +kernel
set_option maxRecDepth 100000 in
theorem s_mok_e28 : s_mok s_e28 = true := by decide +kernel
set_option maxRecDepth 100000 in
theorem s_mok_e29 : s_mok s_e29 = true := by decide +kernel
set_option maxRecDepth 100000 in
theorem s_mok_e30 : s_mok s_e30 = true := by decide +kernel
set_option maxRecDepth 100000 in
theorem s_mok_e31 : s_mok s_e31 = true := by decide +kernel
set_option maxRecDepth 100000 in
theorem s_mok_e32 : s_mok s_e32 = true := by decide +kernel
set_option maxRecDepth 100000 in
theorem s_mok_e33 : s_mok s_e33 = true := by decide +kernel
set_option maxRecDepth 100000 in
theorem s_mok_e34 : s_mok s_e34 = true := by decide +kernel
set_option maxRecDepth 100000 in
theorem s_mok_e35 : s_mok s_e35 = true := by decide +kernel
set_option maxRecDepth 100000 in
theorem s_mok_e36 : s_mok s_e36 = true := by decide +kernel
set_option maxRecDepth 100000 in
theorem s_mok_e37 : s_mok s_e37 = true := by decide +kernel
set_option maxRecDepth 100000 in
theorem s_mok_e38 : s_mok s_e38 = true := by decide +kernel
set_option maxRecDepth 100000 in
theorem s_mok_e39 : s_mok s_e39 = true := by decide +kernel
set_option maxRecDepth 100000 in
theorem s_mok_e40 : s_mok s_e40 = true := by decide +kernel
set_option maxRecDepth 100000 in
theorem s_mok_e41 : s_mok s_e41 = true := by decide +kernel
set_option maxRecDepth 100000 in
theorem s_mok_e42 : s_mok s_e42 = true := by decide +kernel
set_option maxRecDepth 100000 in
theorem s_mok_e43 : s_mok s_e43 = true := by decide +kernel
set_option maxRecDepth 100000 in
theorem s_mok_e44 : s_mok s_e44 = true := by decide +kernel
set_option maxRecDepth 100000 in
theorem s_mok_e45 : s_mok s_e45 = true := by decide +kernel
set_option maxRecDepth 100000 in
theorem s_mok_e46 : s_mok s_e46 = true := by decide +kernel
set_option maxRecDepth 100000 in
theorem s_mok_e47 : s_mok s_e47 = true := by decide +kernel
set_option maxRecDepth 100000 in
theorem s_mok_e48 : s_mok s_e48 = true := by decide +kernel
set_option maxRecDepth 100000 in
theorem s_mok_e49 : s_mok s_e49 = true := by decide +kernel
set_option maxRecDepth 100000 in
theorem s_mok_e50 : s_mok s_e50 = true := by decide +kernel
set_option maxRecDepth 100000 in
theorem s_mok_e51 : s_mok s_e51 = true := by decide +kernel
set_option maxRecDepth 100000 in
theorem s_mok_e52 : s_mok s_e52 = true := by decide +kernel
set_option maxRecDepth 100000 in
theorem s_mok_e53 : s_mok s_e53 = true := by decide +kernel
set_option maxRecDepth 100000 in
theorem s_mok_e54 : s_mok s_e54 = true := by decide +kernel
set_option maxRecDepth 100000 in
theorem s_mok_e55 : s_mok s_e55 = true := by decide +kernel
set_option maxRecDepth 100000 in
theorem s_mok_e56 : s_mok s_e56 = true := by decide +kernel
set_option maxRecDepth 100000 in
theorem s_mok_e57 : s_mok s_e57 = true := by decide +kernel
set_option maxRecDepth 100000 in
theorem s_mok_e58 : s_mok s_e58 = true := by decide +kernel
set_option maxRecDepth 100000 in
theorem s_mok_e59 : s_mok s_e59 = true := by decide +kernel
set_option maxRecDepth 100000 in
theorem s_mok_e60 : s_mok s_e60 = true := by decide +kernel
set_option maxRecDepth 100000 in
theorem s_mok_e61 : s_mok s_e61 = true := by decide +kernel
set_option maxRecDepth 100000 in
theorem s_mok_e62 : s_mok s_e62 = true := by decide +kernel
set_option maxRecDepth 100000 in
theorem s_mok_e63 : s_mok s_e63 = true := by decide +kernel
set_option maxRecDepth 100000 in
theorem s_mok_e64 : s_mok s_e64 = true := by decide +kernel
