set_option maxRecDepth 100000 in
theorem s_mok_e65 : s_mok s_e65 = true := by decide +kernel
set_option maxRecDepth 100000 in
theorem s_mok_e66 : s_mok s_e66 = true := by decide +kernel
set_option maxRecDepth 100000 in
theorem s_mok_e67 : s_mok s_e67 = true := by decide +kernel
set_option maxRecDepth 100000 in
theorem s_mok_e68 : s_mok s_e68 = true := by decide +kernel
set_option maxRecDepth 100000 in
theorem s_mok_e69 : s_mok s_e69 = true := by decide +kernel
set_option maxRecDepth 100000 in
theorem s_mok_e70 : s_mok s_e70 = true := by decide +kernel
set_option maxRecDepth 100000 in
theorem s_mok_e71 : s_mok s_e71 = true := by decide +kernel
set_option maxRecDepth 100000 in
theorem s_mok_e72 : s_mok s_e72 = true := by decide +kernel
set_option maxRecDepth 100000 in
theorem s_mok_e73 : s_mok s_e73 = true := by decide +kernel
set_option maxRecDepth 100000 in
theorem s_mok_e74 : s_mok s_e74 = true := by decide +kernel
set_option maxRecDepth 100000 in
theorem s_mok_e75 : s_mok s_e75 = true := by decide +kernel
set_option maxRecDepth 100000 in
theorem s_mok_e76 : s_mok s_e76 = true := by decide +kernel
set_option maxRecDepth 100000 in
theorem s_mok_e77 : s_mok s_e77 = true := by decide +kernel
set_option maxRecDepth 100000 in
theorem s_mok_e78 : s_mok s_e78 = true := by decide +kernel
set_option maxRecDepth 100000 in
theorem s_mok_e79 : s_mok s_e79 = true := by decide +kernel
set_option maxRecDepth 100000 in
theorem s_mok_e80 : s_mok s_e80 = true := by decide +kernel
set_option maxRecDepth 100000 in
theorem s_mok_e81 : s_mok s_e81 = true := by decide +kernel
set_option maxRecDepth 100000 in
theorem s_mok_e82 : s_mok s_e82 = true := by decide +kernel
set_option maxRecDepth 100000 in
theorem s_mok_e83 : s_mok s_e83 = true := by decide +kernel
set_option maxRecDepth 100000 in
theorem s_mok_e84 : s_mok s_e84 = true := by decide +kernel
set_option maxRecDepth 100000 in
theorem s_mok_e85 : s_mok s_e85 = true := by decide +kernel
set_option maxRecDepth 100000 in
theorem s_mok_e86 : s_mok s_e86 = true := by decide +kernel
set_option maxRecDepth 100000 in
theorem s_mok_e87 : s_mok s_e87 = true := by decide +kernel
set_option maxRecDepth 100000 in
theorem s_mok_e88 : s_mok s_e88 = true := by decide +kernel
set_option maxRecDepth 100000 in
theorem s_mok_e89 : s_mok s_e89 = true := by decide +kernel
set_option maxRecDepth 100000 in
theorem s_mok_e90 : s_mok s_e90 = true := by decide +kernel
set_option maxRecDepth 100000 in
theorem s_mok_e91 : s_mok s_e91 = true := by decide +kernel
set_option maxRecDepth 100000 in
theorem s_mok_e92 : s_mok s_e92 = true := by decide +kernel
set_option maxRecDepth 100000 in
theorem s_mok_e93 : s_mok s_e93 = true := by decide +kernel
set_option maxRecDepth 100000 in
theorem s_mok_e94 : s_mok s_e94 = true := by decide +kernel
set_option maxRecDepth 100000 in
theorem s_mok_e95 : s_mok s_e95 = true := by decide +kernel
set_option maxRecDepth 100000 in
theorem s_mok_e96 : s_mok s_e96 = true := by decide +kernel
set_option maxRecDepth 100000 in
theorem s_mok_e97 : s_mok s_e97 = true := by decide +kernel
set_option maxRecDepth 100000 in
theorem s_mok_e98 : s_mok s_e98 = true := by decide +kernel
set_option maxRecDepth 100000 in
theorem s_mok_e99 : s_mok s_e99 = true := by decide +kernel
set_option maxRecDepth 100000 in
theorem s_mok_e100 : s_mok s_e100 = true := by decide +kernel
set_option maxRecDepth 100000 in
theorem s_mok_e101 : s_mok s_e101 = true := by decide +kernel
set_option maxRecDepth 100000 in
theorem s_mok_e102 : s_mok s_e102 = true := by decide +kernel
set_option maxRecDepth 100000 in
theorem s_mok_e103 : s_mok s_e103 = true := by decide +kernel
set_option maxRecDepth 100000 in
theorem s_mok_e104 : s_mok s_e104 = true := by decide +kernel
set_option maxRecDepth 100000 in
theorem s_mok_e105 : s_mok s_e105 = true := by decide +kernel
set_option maxRecDepth 100000 in
theorem s_mok_e106 : s_mok s_e106 = true := by decide +kernel
set_option maxRecDepth 100000 in
theorem s_mok_e107 : s_mok s_e107 = true := by decide +kernel
set_option maxRecDepth 100000 in
theorem s_mok_e108 : s_mok s_e108 = true := by decide +kernel
set_option maxRecDepth 100000 in
theorem s_mok_e109 : s_mok s_e109 = true := by decide +kernel
set_option maxRecDepth 100000 in
theorem s_mok_e110 : s_mok s_e110 = true := by decide +kernel
set_option maxRecDepth 100000 in
theorem s_mok_e111 : s_mok s_e111 = true := by decide +kernel
set_option maxRecDepth 100000 in
theorem s_mok_e112 : s_mok s_e112 = true := by decide +kernel
set_option maxRecDepth 100000 in
theorem s_mok_e113 : s_mok s_e113 = true := by decide +kernel
set_option maxRecDepth 100000 in
theorem s_mok_e114 : s_mok s_e114 = true := by decide +kernel
set_option maxRecDepth 100000 in
theorem s_mok_e115 : s_mok s_e115 = true := by decide +kernel
set_option maxRecDepth 100000 in
theorem s_mok_e116 : s_mok s_e116 = true := by decide +kernel
set_option maxRecDepth 100000 in
theorem s_mok_e117 : s_mok s_e117 = true := by decide +kernel
set_option maxRecDepth 100000 in
theorem s_mok_e118 : s_mok s_e118 = true := by decide +kernel
set_option maxRecDepth 100000 in
theorem s_mok_e119 : s_mok s_e119 = true := by decide +kernel
set_option maxRecDepth 100000 in
theorem s_mok_e120 : s_mok s_e120 = true := by decide +kernel
set_option maxRecDepth 100000 in
theorem s_mok_e121 : s_mok s_e121 = true := by decide +kernel
set_option maxRecDepth 100000 in
theorem s_mok_e122 : s_mok s_e122 = true := by decide +kernel
set_option maxRecDepth 100000 in
theorem s_mok_e123 : s_mok s_e123 = true := by decide +kernel
set_option maxRecDepth 100000 in
theorem s_mok_e124 : s_mok s_e124 = true := by decide +kernel
set_option maxRecDepth 100000 in
theorem s_mok_e125 : s_mok s_e125 = true := by decide +kernel
