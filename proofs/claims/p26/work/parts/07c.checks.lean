set_option maxRecDepth 100000 in
theorem s_mok_e126 : s_mok s_e126 = true := by decide +kernel
set_option maxRecDepth 100000 in
theorem s_mok_e127 : s_mok s_e127 = true := by decide +kernel
set_option maxRecDepth 100000 in
theorem s_mok_e128 : s_mok s_e128 = true := by decide +kernel
set_option maxRecDepth 100000 in
theorem s_mok_e129 : s_mok s_e129 = true := by decide +kernel
set_option maxRecDepth 100000 in
theorem s_mok_e130 : s_mok s_e130 = true := by decide +kernel
set_option maxRecDepth 100000 in
theorem s_mok_e131 : s_mok s_e131 = true := by decide +kernel
set_option maxRecDepth 100000 in
theorem s_mok_e132 : s_mok s_e132 = true := by decide +kernel
set_option maxRecDepth 100000 in
theorem s_mok_e133 : s_mok s_e133 = true := by decide +kernel
set_option maxRecDepth 100000 in
theorem s_mok_e134 : s_mok s_e134 = true := by decide +kernel
set_option maxRecDepth 100000 in
theorem s_mok_e135 : s_mok s_e135 = true := by decide +kernel
set_option maxRecDepth 100000 in
theorem s_mok_e136 : s_mok s_e136 = true := by decide +kernel
set_option maxRecDepth 100000 in
theorem s_mok_e137 : s_mok s_e137 = true := by decide +kernel
set_option maxRecDepth 100000 in
theorem s_mok_e138 : s_mok s_e138 = true := by decide +kernel
set_option maxRecDepth 100000 in
theorem s_mok_e139 : s_mok s_e139 = true := by decide +kernel
set_option maxRecDepth 100000 in
theorem s_mok_e140 : s_mok s_e140 = true := by decide +kernel
set_option maxRecDepth 100000 in
theorem s_mok_e141 : s_mok s_e141 = true := by decide +kernel
set_option maxRecDepth 100000 in
theorem s_mok_e142 : s_mok s_e142 = true := by decide +kernel
set_option maxRecDepth 100000 in
theorem s_mok_e143 : s_mok s_e143 = true := by decide +kernel
set_option maxRecDepth 100000 in
theorem s_mok_e144 : s_mok s_e144 = true := by decide +kernel
set_option maxRecDepth 100000 in
theorem s_mok_e145 : s_mok s_e145 = true := by decide +kernel
set_option maxRecDepth 100000 in
theorem s_mok_e146 : s_mok s_e146 = true := by decide +kernel
set_option maxRecDepth 100000 in
theorem s_mok_e147 : s_mok s_e147 = true := by decide +kernel
set_option maxRecDepth 100000 in
theorem s_mok_e148 : s_mok s_e148 = true := by decide +kernel
set_option maxRecDepth 100000 in
theorem s_mok_e149 : s_mok s_e149 = true := by decide +kernel
set_option maxRecDepth 100000 in
theorem s_mok_e150 : s_mok s_e150 = true := by decide +kernel
set_option maxRecDepth 100000 in
theorem s_mok_e151 : s_mok s_e151 = true := by decide +kernel
set_option maxRecDepth 100000 in
theorem s_mok_e152 : s_mok s_e152 = true := by decide +kernel
set_option maxRecDepth 100000 in
theorem s_mok_e153 : s_mok s_e153 = true := by decide +kernel
set_option maxRecDepth 100000 in
theorem s_mok_e154 : s_mok s_e154 = true := by decide +kernel
set_option maxRecDepth 100000 in
theorem s_mok_e155 : s_mok s_e155 = true := by decide +kernel
set_option maxRecDepth 100000 in
theorem s_mok_e156 : s_mok s_e156 = true := by decide +kernel
set_option maxRecDepth 100000 in
theorem s_mok_e157 : s_mok s_e157 = true := by decide +kernel
set_option maxRecDepth 100000 in
theorem s_mok_e158 : s_mok s_e158 = true := by decide +kernel
set_option maxRecDepth 100000 in
theorem s_mok_e159 : s_mok s_e159 = true := by decide +kernel
set_option maxRecDepth 100000 in
theorem s_mok_e160 : s_mok s_e160 = true := by decide +kernel
set_option maxRecDepth 100000 in
theorem s_mok_e161 : s_mok s_e161 = true := by decide +kernel
set_option maxRecDepth 100000 in
theorem s_mok_e162 : s_mok s_e162 = true := by decide +kernel
set_option maxRecDepth 100000 in
theorem s_mok_e163 : s_mok s_e163 = true := by decide +kernel
set_option maxRecDepth 100000 in
theorem s_mok_e164 : s_mok s_e164 = true := by decide +kernel
set_option maxRecDepth 100000 in
theorem s_mok_e165 : s_mok s_e165 = true := by decide +kernel
set_option maxRecDepth 100000 in
theorem s_mok_e166 : s_mok s_e166 = true := by decide +kernel
set_option maxRecDepth 100000 in
theorem s_mok_e167 : s_mok s_e167 = true := by decide +kernel
