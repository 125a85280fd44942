set_option maxRecDepth 100000 in
theorem s_mok_e250 : s_mok s_e250 = true := by decide +kernel
set_option maxRecDepth 100000 in
theorem s_mok_e251 : s_mok s_e251 = true := by decide +kernel
set_option maxRecDepth 100000 in
theorem s_mok_e252 : s_mok s_e252 = true := by decide +kernel
set_option maxRecDepth 100000 in
theorem s_mok_e253 : s_mok s_e253 = true := by decide +kernel
set_option maxRecDepth 100000 in
theorem s_mok_e254 : s_mok s_e254 = true := by decide +kernel
set_option maxRecDepth 100000 in
theorem s_mok_e255 : s_mok s_e255 = true := by decide +kernel
set_option maxRecDepth 100000 in
theorem s_mok_e256 : s_mok s_e256 = true := by decide +kernel
set_option maxRecDepth 100000 in
theorem s_mok_e257 : s_mok s_e257 = true := by decide +kernel
set_option maxRecDepth 100000 in
theorem s_mok_e258 : s_mok s_e258 = true := by decide +kernel
set_option maxRecDepth 100000 in
theorem s_mok_e259 : s_mok s_e259 = true := by decide +kernel
set_option maxRecDepth 100000 in
theorem s_mok_e260 : s_mok s_e260 = true := by decide +kernel
set_option maxRecDepth 100000 in
theorem s_mok_e261 : s_mok s_e261 = true := by decide +kernel
set_option maxRecDepth 100000 in
theorem s_mok_e262 : s_mok s_e262 = true := by decide +kernel
set_option maxRecDepth 100000 in
theorem s_mok_e263 : s_mok s_e263 = true := by decide +kernel
set_option maxRecDepth 100000 in
theorem s_mok_e264 : s_mok s_e264 = true := by decide +kernel
set_option maxRecDepth 100000 in
theorem s_mok_e265 : s_mok s_e265 = true := by decide +kernel
set_option maxRecDepth 100000 in
theorem s_mok_e266 : s_mok s_e266 = true := by decide +kernel
set_option maxRecDepth 100000 in
theorem s_mok_e267 : s_mok s_e267 = true := by decide +kernel
set_option maxRecDepth 100000 in
theorem s_mok_e268 : s_mok s_e268 = true := by decide +kernel
set_option maxRecDepth 100000 in
theorem s_mok_e269 : s_mok s_e269 = true := by decide +kernel
set_option maxRecDepth 100000 in
theorem s_mok_e270 : s_mok s_e270 = true := by decide +kernel
set_option maxRecDepth 100000 in
theorem s_mok_e271 : s_mok s_e271 = true := by decide +kernel
set_option maxRecDepth 100000 in
theorem s_mok_e272 : s_mok s_e272 = true := by decide +kernel
set_option maxRecDepth 100000 in
theorem s_mok_e273 : s_mok s_e273 = true := by decide +kernel
set_option maxRecDepth 100000 in
theorem s_mok_e274 : s_mok s_e274 = true := by decide +kernel
set_option maxRecDepth 100000 in
theorem s_mok_e275 : s_mok s_e275 = true := by decide +kernel
set_option maxRecDepth 100000 in
theorem s_mok_e276 : s_mok s_e276 = true := by decide +kernel
set_option maxRecDepth 100000 in
theorem s_mok_e277 : s_mok s_e277 = true := by decide +kernel
set_option maxRecDepth 100000 in
theorem s_mok_e278 : s_mok s_e278 = true := by decide +kernel
set_option maxRecDepth 100000 in
theorem s_mok_e279 : s_mok s_e279 = true := by decide +kernel
set_option maxRecDepth 100000 in
theorem s_mok_e280 : s_mok s_e280 = true := by decide +kernel
set_option maxRecDepth 100000 in
theorem s_mok_e281 : s_mok s_e281 = true := by decide +kernel
set_option maxRecDepth 100000 in
theorem s_mok_e282 : s_mok s_e282 = true := by decide +kernel
set_option maxRecDepth 100000 in
theorem s_mok_e283 : s_mok s_e283 = true := by decide +kernel
set_option maxRecDepth 100000 in
theorem s_mok_e284 : s_mok s_e284 = true := by decide +kernel
set_option maxRecDepth 100000 in
theorem s_mok_e285 : s_mok s_e285 = true := by decide +kernel
set_option maxRecDepth 100000 in
theorem s_mok_e286 : s_mok s_e286 = true := by decide +kernel
set_option maxRecDepth 100000 in
theorem s_mok_e287 : s_mok s_e287 = true := by decide +kernel
set_option maxRecDepth 100000 in
theorem s_mok_e288 : s_mok s_e288 = true := by decide +kernel
set_option maxRecDepth 100000 in
theorem s_mok_e289 : s_mok s_e289 = true := by decide +kernel
set_option maxRecDepth 100000 in
theorem s_mok_e290 : s_mok s_e290 = true := by decide +kernel
