set_option maxRecDepth 100000 in
theorem s_mok_e208 : s_mok s_e208 = true := by decide +kernel
set_option maxRecDepth 100000 in
theorem s_mok_e209 : s_mok s_e209 = true := by decide +kernel
set_option maxRecDepth 100000 in
theorem s_mok_e210 : s_mok s_e210 = true := by decide +kernel
set_option maxRecDepth 100000 in
theorem s_mok_e211 : s_mok s_e211 = true := by decide +kernel
set_option maxRecDepth 100000 in
theorem s_mok_e212 : s_mok s_e212 = true := by decide +kernel
set_option maxRecDepth 100000 in
theorem s_mok_e213 : s_mok s_e213 = true := by decide +kernel
set_option maxRecDepth 100000 in
theorem s_mok_e214 : s_mok s_e214 = true := by decide +kernel
set_option maxRecDepth 100000 in
theorem s_mok_e215 : s_mok s_e215 = true := by decide +kernel
set_option maxRecDepth 100000 in
theorem s_mok_e216 : s_mok s_e216 = true := by decide +kernel
set_option maxRecDepth 100000 in
theorem s_mok_e217 : s_mok s_e217 = true := by decide +kernel
set_option maxRecDepth 100000 in
theorem s_mok_e218 : s_mok s_e218 = true := by decide +kernel
set_option maxRecDepth 100000 in
theorem s_mok_e219 : s_mok s_e219 = true := by decide +kernel
set_option maxRecDepth 100000 in
theorem s_mok_e220 : s_mok s_e220 = true := by decide +kernel
set_option maxRecDepth 100000 in
theorem s_mok_e221 : s_mok s_e221 = true := by decide +kernel
set_option maxRecDepth 100000 in
theorem s_mok_e222 : s_mok s_e222 = true := by decide +kernel
set_option maxRecDepth 100000 in
theorem s_mok_e223 : s_mok s_e223 = true := by decide +kernel
set_option maxRecDepth 100000 in
theorem s_mok_e224 : s_mok s_e224 = true := by decide +kernel
set_option maxRecDepth 100000 in
theorem s_mok_e225 : s_mok s_e225 = true := by decide +kernel
set_option maxRecDepth 100000 in
theorem s_mok_e226 : s_mok s_e226 = true := by decide +kernel
set_option maxRecDepth 100000 in
theorem s_mok_e227 : s_mok s_e227 = true := by decide +kernel
set_option maxRecDepth 100000 in
theorem s_mok_e228 : s_mok s_e228 = true := by decide +kernel
set_option maxRecDepth 100000 in
theorem s_mok_e229 : s_mok s_e229 = true := by decide +kernel
set_option maxRecDepth 100000 in
theorem s_mok_e230 : s_mok s_e230 = true := by decide +kernel
set_option maxRecDepth 100000 in
theorem s_mok_e231 : s_mok s_e231 = true := by decide +kernel
set_option maxRecDepth 100000 in
theorem s_mok_e232 : s_mok s_e232 = true := by decide +kernel
set_option maxRecDepth 100000 in
theorem s_mok_e233 : s_mok s_e233 = true := by decide +kernel
set_option maxRecDepth 100000 in
theorem s_mok_e234 : s_mok s_e234 = true := by decide +kernel
set_option maxRecDepth 100000 in
theorem s_mok_e235 : s_mok s_e235 = true := by decide +kernel
set_option maxRecDepth 100000 in
theorem s_mok_e236 : s_mok s_e236 = true := by decide +kernel
set_option maxRecDepth 100000 in
theorem s_mok_e237 : s_mok s_e237 = true := by decide +kernel
set_option maxRecDepth 100000 in
theorem s_mok_e238 : s_mok s_e238 = true := by decide +kernel
set_option maxRecDepth 100000 in
theorem s_mok_e239 : s_mok s_e239 = true := by decide +kernel
set_option maxRecDepth 100000 in
theorem s_mok_e240 : s_mok s_e240 = true := by decide +kernel
set_option maxRecDepth 100000 in
theorem s_mok_e241 : s_mok s_e241 = true := by decide +kernel
set_option maxRecDepth 100000 in
theorem s_mok_e242 : s_mok s_e242 = true := by decide +kernel
set_option maxRecDepth 100000 in
theorem s_mok_e243 : s_mok s_e243 = true := by decide +kernel
set_option maxRecDepth 100000 in
theorem s_mok_e244 : s_mok s_e244 = true := by decide +kernel
set_option maxRecDepth 100000 in
theorem s_mok_e245 : s_mok s_e245 = true := by decide +kernel
set_option maxRecDepth 100000 in
theorem s_mok_e246 : s_mok s_e246 = true := by decide +kernel
set_option maxRecDepth 100000 in
theorem s_mok_e247 : s_mok s_e247 = true := by decide +kernel
set_option maxRecDepth 100000 in
theorem s_mok_e248 : s_mok s_e248 = true := by decide +kernel
set_option maxRecDepth 100000 in
theorem s_mok_e249 : s_mok s_e249 = true := by decide +kernel
