set_option maxRecDepth 100000 in
theorem s_mok_e168 : s_mok s_e168 = true := by decide +kernel
set_option maxRecDepth 100000 in
theorem s_mok_e169 : s_mok s_e169 = true := by decide +kernel
set_option maxRecDepth 100000 in
theorem s_mok_e170 : s_mok s_e170 = true := by decide +kernel
set_option maxRecDepth 100000 in
theorem s_mok_e171 : s_mok s_e171 = true := by decide +kernel
set_option maxRecDepth 100000 in
theorem s_mok_e172 : s_mok s_e172 = true := by decide +kernel
set_option maxRecDepth 100000 in
theorem s_mok_e173 : s_mok s_e173 = true := by decide +kernel
set_option maxRecDepth 100000 in
theorem s_mok_e174 : s_mok s_e174 = true := by decide +kernel
set_option maxRecDepth 100000 in
theorem s_mok_e175 : s_mok s_e175 = true := by decide +kernel
set_option maxRecDepth 100000 in
theorem s_mok_e176 : s_mok s_e176 = true := by decide +kernel
set_option maxRecDepth 100000 in
theorem s_mok_e177 : s_mok s_e177 = true := by decide +kernel
set_option maxRecDepth 100000 in
theorem s_mok_e178 : s_mok s_e178 = true := by decide +kernel
set_option maxRecDepth 100000 in
theorem s_mok_e179 : s_mok s_e179 = true := by decide +kernel
set_option maxRecDepth 100000 in
theorem s_mok_e180 : s_mok s_e180 = true := by decide +kernel
set_option maxRecDepth 100000 in
theorem s_mok_e181 : s_mok s_e181 = true := by decide +kernel
set_option maxRecDepth 100000 in
theorem s_mok_e182 : s_mok s_e182 = true := by decide +kernel
set_option maxRecDepth 100000 in
theorem s_mok_e183 : s_mok s_e183 = true := by decide +kernel
set_option maxRecDepth 100000 in
theorem s_mok_e184 : s_mok s_e184 = true := by decide +kernel
set_option maxRecDepth 100000 in
theorem s_mok_e185 : s_mok s_e185 = true := by decide +kernel
set_option maxRecDepth 100000 in
theorem s_mok_e186 : s_mok s_e186 = true := by decide +kernel
set_option maxRecDepth 100000 in
theorem s_mok_e187 : s_mok s_e187 = true := by decide +kernel
set_option maxRecDepth 100000 in
theorem s_mok_e188 : s_mok s_e188 = true := by decide +kernel
set_option maxRecDepth 100000 in
theorem s_mok_e189 : s_mok s_e189 = true := by decide +kernel
set_option maxRecDepth 100000 in
theorem s_mok_e190 : s_mok s_e190 = true := by decide +kernel
set_option maxRecDepth 100000 in
theorem s_mok_e191 : s_mok s_e191 = true := by decide +kernel
set_option maxRecDepth 100000 in
theorem s_mok_e192 : s_mok s_e192 = true := by decide +kernel
set_option maxRecDepth 100000 in
theorem s_mok_e193 : s_mok s_e193 = true := by decide +kernel
set_option maxRecDepth 100000 in
theorem s_mok_e194 : s_mok s_e194 = true := by decide +kernel
set_option maxRecDepth 100000 in
theorem s_mok_e195 : s_mok s_e195 = true := by decide +kernel
set_option maxRecDepth 100000 in
theorem s_mok_e196 : s_mok s_e196 = true := by decide +kernel
set_option maxRecDepth 100000 in
theorem s_mok_e197 : s_mok s_e197 = true := by decide +kernel
set_option maxRecDepth 100000 in
theorem s_mok_e198 : s_mok s_e198 = true := by decide +kernel
set_option maxRecDepth 100000 in
theorem s_mok_e199 : s_mok s_e199 = true := by decide +kernel
set_option maxRecDepth 100000 in
theorem s_mok_e200 : s_mok s_e200 = true := by decide +kernel
set_option maxRecDepth 100000 in
theorem s_mok_e201 : s_mok s_e201 = true := by decide +kernel
set_option maxRecDepth 100000 in
theorem s_mok_e202 : s_mok s_e202 = true := by decide +kernel
set_option maxRecDepth 100000 in
theorem s_mok_e203 : s_mok s_e203 = true := by decide +kernel
set_option maxRecDepth 100000 in
theorem s_mok_e204 : s_mok s_e204 = true := by decide +kernel
set_option maxRecDepth 100000 in
theorem s_mok_e205 : s_mok s_e205 = true := by decide +kernel
set_option maxRecDepth 100000 in
theorem s_mok_e206 : s_mok s_e206 = true := by decide +kernel
set_option maxRecDepth 100000 in
theorem s_mok_e207 : s_mok s_e207 = true := by decide +kernel
