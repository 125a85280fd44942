/-! the calls on fresh objects: feed law laws speaks judge falseOnes under body act trace -/
set_option maxRecDepth 1000000 in
theorem s_cla_0 : s_out (s_x s_prog s_fty s_ft (s_rows 2 0 (fun _ => 0)) 128 1298 s_e68.1 0 (lv_args 0 [.ref 3, .ref 1, .int 0]) [] s_M0) (some (.int 0)) s_M0 s_M0 = true := by decide +kernel
set_option maxRecDepth 1000000 in
theorem s_cla_1 : s_out (s_x s_prog s_fty s_ft (s_rows 2 0 (fun _ => 0)) 157 1298 s_e197.1 0 (lv_args 0 [.ref 151, .int 0]) [] s_M0) (some (.int 0)) s_M0 ((((s_M0.set 151 (11, ([Value.int 0, Value.ref 152, Value.int 0, Value.int 0, Value.int 0, Value.int 0, Value.int 1, Value.ref 153, Value.ref 154, Value.ref 155, Value.ref 156, Value.ref 157, Value.ref 158, Value.ref 159, Value.int 0, Value.ref 160, Value.ref 161, Value.ref 162, Value.int 0, Value.int 99, Value.ref 163, Value.ref 164, Value.ref 165, Value.int 0, Value.int 0, Value.ref 166, Value.ref 167, Value.ref 168, Value.ref 169, Value.ref 170, Value.int 0, Value.int 0, Value.ref 171, Value.ref 172, Value.ref 173, Value.int 0, Value.int 0, Value.ref 174, Value.ref 175, Value.ref 176, Value.ref 177, Value.ref 178, Value.int 0, Value.ref 179, Value.int 0, Value.ref 180, Value.ref 181, Value.ref 182, Value.ref 183, Value.ref 184] : List Value))).set 153 (12, ([Value.int 0, Value.int 0, Value.int 0, Value.int 0, Value.int 0, Value.int 0, Value.int 0, Value.int 0, Value.int 0, Value.int 0, Value.int 0, Value.int 0, Value.int 0, Value.int 0, Value.int 0, Value.int 0, Value.int 0, Value.int 0, Value.int 0, Value.int 0, Value.int 0, Value.int 0, Value.int 0, Value.int 0, Value.int 0, Value.int 0, Value.int 0, Value.int 0, Value.int 0, Value.int 0, Value.int 0, Value.int 0, Value.int 0, Value.int 0, Value.int 0, Value.int 0, Value.int 0, Value.int 0, Value.int 0, Value.int 0, Value.int 0, Value.int 0, Value.int 0, Value.int 0, Value.int 0, Value.int 0, Value.int 0, Value.int 0, Value.int 0, Value.int 0, Value.int 0, Value.int 0, Value.int 0, Value.int 0, Value.int 0, Value.int 0, Value.int 0, Value.int 0, Value.int 0, Value.int 0, Value.int 0, Value.int 0, Value.int 0, Value.int 0, Value.int 0, Value.int 0, Value.int 0, Value.int 0, Value.int 0, Value.int 0, Value.int 0, Value.int 0, Value.int 0, Value.int 0, Value.int 0, Value.int 0, Value.int 0, Value.int 0, Value.int 0, Value.int 0, Value.int 0, Value.int 0, Value.int 0, Value.int 0, Value.int 0, Value.int 0, Value.int 0, Value.int 0, Value.int 0, Value.int 0, Value.int 0, Value.int 0, Value.int 0, Value.int 0, Value.int 0, Value.int 0, Value.int 0, Value.int 0, Value.int 0, Value.int 0, Value.int 0, Value.int 0, Value.int 0, Value.int 0, Value.int 0, Value.int 0, Value.int 0, Value.int 0, Value.int 0, Value.int 0, Value.int 0, Value.int 0, Value.int 0, Value.int 0, Value.int 0, Value.int 0, Value.int 0, Value.int 0, Value.int 0, Value.int 0, Value.int 0, Value.int 0, Value.int 0, Value.int 0, Value.int 0, Value.int 0, Value.int 0, Value.int 0, Value.int 0, Value.int 0, Value.int 0, Value.int 0, Value.int 0, Value.int 0, Value.int 0, Value.int 0, Value.int 0, Value.int 0, Value.int 0, Value.int 0, Value.int 0, Value.int 0, Value.int 0, Value.int 0, Value.int 0, Value.int 0, Value.int 0, Value.int 0, Value.int 0, Value.int 0, Value.int 0, Value.int 0, Value.int 0, Value.int 0, Value.int 0, Value.int 0, Value.int 0, Value.int 0, Value.int 0, Value.int 0, Value.int 0, Value.int 0, Value.int 0, Value.int 0, Value.int 0, Value.int 0, Value.int 0, Value.int 0, Value.int 0, Value.int 0, Value.int 0, Value.int 0, Value.int 0, Value.int 0, Value.int 0, Value.int 0, Value.int 0, Value.int 0, Value.int 0, Value.int 0, Value.int 0, Value.int 0, Value.int 0, Value.int 0, Value.int 0, Value.int 0, Value.int 0, Value.int 0, Value.int 0, Value.int 0, Value.int 0, Value.int 0, Value.int 0, Value.int 0, Value.int 0, Value.int 0, Value.int 0, Value.int 0, Value.int 0, Value.int 0, Value.int 0, Value.int 0, Value.int 0, Value.int 0, Value.int 0, Value.int 0, Value.int 0, Value.int 0, Value.int 0, Value.int 0, Value.int 0, Value.int 0, Value.int 0, Value.int 0, Value.int 0, Value.int 0, Value.int 0, Value.int 0, Value.int 0, Value.int 0, Value.int 0, Value.int 0, Value.int 0, Value.int 0, Value.int 0, Value.int 0, Value.int 0, Value.int 0, Value.int 0, Value.int 0, Value.int 0, Value.int 0, Value.int 0, Value.int 0, Value.int 0, Value.int 0, Value.int 0, Value.int 0, Value.int 0, Value.int 0, Value.int 0, Value.int 0, Value.int 0, Value.int 0, Value.int 0, Value.int 0, Value.int 0, Value.int 0, Value.int 0, Value.int 0, Value.int 0, Value.int 0, Value.int 0, Value.int 0, Value.int 0, Value.int 0, Value.int 0, Value.int 0, Value.int 0, Value.int 0, Value.int 0, Value.int 0, Value.int 0, Value.int 0, Value.int 0, Value.int 0, Value.int 0, Value.int 0, Value.int 0, Value.int 0, Value.int 0, Value.int 0, Value.int 0, Value.int 0, Value.int 0, Value.int 0, Value.int 0, Value.int 0, Value.int 0, Value.int 0, Value.int 0, Value.int 0, Value.int 0, Value.int 0, Value.int 0, Value.int 0, Value.int 0, Value.int 0, Value.int 0, Value.int 0, Value.int 0, Value.int 0, Value.int 0, Value.int 0, Value.int 0, Value.int 0, Value.int 0, Value.int 0, Value.int 0, Value.int 0, Value.int 0, Value.int 0, Value.int 0, Value.int 0, Value.int 0, Value.int 0, Value.int 0, Value.int 0, Value.int 0, Value.int 0, Value.int 0, Value.int 0, Value.int 0, Value.int 0, Value.int 0, Value.int 0, Value.int 0, Value.int 0, Value.int 0, Value.int 0, Value.int 0, Value.int 0, Value.int 0, Value.int 0, Value.int 0, Value.int 0, Value.int 0, Value.int 0, Value.int 0, Value.int 0, Value.int 0, Value.int 0, Value.int 0, Value.int 0, Value.int 0, Value.int 0, Value.int 0, Value.int 0, Value.int 0, Value.int 0, Value.int 0, Value.int 0, Value.int 0, Value.int 0, Value.int 0, Value.int 0, Value.int 0, Value.int 0, Value.int 0, Value.int 0, Value.int 0, Value.int 0, Value.int 0, Value.int 0, Value.int 0, Value.int 0, Value.int 0, Value.int 0, Value.int 0, Value.int 0, Value.int 0, Value.int 0, Value.int 0, Value.int 0, Value.int 0, Value.int 0, Value.int 0, Value.int 0, Value.int 0, Value.int 0, Value.int 0, Value.int 0, Value.int 0, Value.int 0, Value.int 0, Value.int 0, Value.int 0, Value.int 0, Value.int 0, Value.int 0, Value.int 0, Value.int 0, Value.int 0, Value.int 0, Value.int 0, Value.int 0, Value.int 0, Value.int 0, Value.int 0, Value.int 0, Value.int 0, Value.int 0, Value.int 0, Value.int 0, Value.int 0, Value.int 0, Value.int 0, Value.int 0, Value.int 0, Value.int 0, Value.int 0, Value.int 0, Value.int 0, Value.int 0, Value.int 0, Value.int 0, Value.int 0, Value.int 0, Value.int 0, Value.int 0, Value.int 0, Value.int 0, Value.int 0, Value.int 0, Value.int 0, Value.int 0, Value.int 0, Value.int 0, Value.int 0, Value.int 0, Value.int 0, Value.int 0, Value.int 0, Value.int 0, Value.int 0, Value.int 0, Value.int 0, Value.int 0, Value.int 0, Value.int 0, Value.int 0, Value.int 0, Value.int 0, Value.int 0, Value.int 0, Value.int 0, Value.int 0, Value.int 0, Value.int 0, Value.int 0, Value.int 0, Value.int 0, Value.int 0, Value.int 0, Value.int 0, Value.int 0, Value.int 0, Value.int 0, Value.int 0, Value.int 0, Value.int 0, Value.int 0, Value.int 0, Value.int 0, Value.int 0, Value.int 0, Value.int 0, Value.int 0, Value.int 0, Value.int 0, Value.int 0, Value.int 0, Value.int 0, Value.int 0, Value.int 0, Value.int 0, Value.int 0, Value.int 0, Value.int 0, Value.int 0, Value.int 0, Value.int 0, Value.int 0, Value.int 0, Value.int 0, Value.int 0, Value.int 0, Value.int 0, Value.int 0, Value.int 0, Value.int 0, Value.int 0, Value.int 0, Value.int 0, Value.int 0, Value.int 0, Value.int 0, Value.int 0, Value.int 0, Value.int 0, Value.int 0, Value.int 0, Value.int 0, Value.int 0, Value.int 0, Value.int 0, Value.int 0, Value.int 0, Value.int 0, Value.int 0, Value.int 0, Value.int 0, Value.int 0, Value.int 0, Value.int 0, Value.int 0, Value.int 0, Value.int 0, Value.int 0, Value.int 0, Value.int 0, Value.int 0, Value.int 0, Value.int 0, Value.int 0, Value.int 0, Value.int 0, Value.int 0, Value.int 0, Value.int 0, Value.int 0, Value.int 0, Value.int 0, Value.int 0, Value.int 0, Value.int 0, Value.int 0, Value.int 0, Value.int 0, Value.int 0, Value.int 0, Value.int 0, Value.int 0, Value.int 0, Value.int 0, Value.int 0, Value.int 0, Value.int 0, Value.int 0, Value.int 0, Value.int 0, Value.int 0, Value.int 0, Value.int 0, Value.int 0, Value.int 0, Value.int 0, Value.int 0, Value.int 0, Value.int 0, Value.int 0, Value.int 0, Value.int 0, Value.int 0, Value.int 0, Value.int 0, Value.int 0, Value.int 0, Value.int 0, Value.int 0, Value.int 0, Value.int 0, Value.int 0, Value.int 0, Value.int 0, Value.int 0, Value.int 0, Value.int 0, Value.int 0, Value.int 0, Value.int 0, Value.int 0, Value.int 0, Value.int 0, Value.int 0, Value.int 0, Value.int 0, Value.int 0, Value.int 0, Value.int 0, Value.int 0, Value.int 0, Value.int 0, Value.int 0, Value.int 0, Value.int 0, Value.int 0, Value.int 0, Value.int 0, Value.int 0, Value.int 0, Value.int 0, Value.int 0, Value.int 0, Value.int 0, Value.int 0, Value.int 0, Value.int 0, Value.int 0, Value.int 0, Value.int 0, Value.int 0, Value.int 0, Value.int 0, Value.int 0, Value.int 0, Value.int 0, Value.int 0, Value.int 0, Value.int 0, Value.int 0, Value.int 0, Value.int 0, Value.int 0, Value.int 0, Value.int 0, Value.int 0, Value.int 0, Value.int 0, Value.int 0, Value.int 0, Value.int 0, Value.int 0, Value.int 0, Value.int 0, Value.int 0, Value.int 0, Value.int 0, Value.int 0, Value.int 0, Value.int 0, Value.int 0, Value.int 0, Value.int 0, Value.int 0, Value.int 0, Value.int 0, Value.int 0, Value.int 0, Value.int 0, Value.int 0, Value.int 0, Value.int 0, Value.int 0, Value.int 0, Value.int 0, Value.int 0, Value.int 0, Value.int 0, Value.int 0, Value.int 0, Value.int 0, Value.int 0, Value.int 0, Value.int 0, Value.int 0, Value.int 0, Value.int 0, Value.int 0, Value.int 0, Value.int 0, Value.int 0, Value.int 0, Value.int 0, Value.int 0, Value.int 0, Value.int 0, Value.int 0, Value.int 0, Value.int 0, Value.int 0, Value.int 0, Value.int 0, Value.int 0, Value.int 0, Value.int 0, Value.int 0, Value.int 0, Value.int 0, Value.int 0, Value.int 0, Value.int 0, Value.int 0, Value.int 0, Value.int 0, Value.int 0, Value.int 0, Value.int 0, Value.int 0, Value.int 0, Value.int 0, Value.int 0, Value.int 0, Value.int 0, Value.int 0, Value.int 0, Value.int 0, Value.int 0, Value.int 0, Value.int 0, Value.int 0, Value.int 0, Value.int 0, Value.int 0, Value.int 0, Value.int 0, Value.int 0, Value.int 0, Value.int 0, Value.int 0, Value.int 0, Value.int 0, Value.int 0, Value.int 0, Value.int 0, Value.int 0, Value.int 0, Value.int 0, Value.int 0, Value.int 0, Value.int 0, Value.int 0, Value.int 0, Value.int 0, Value.int 0, Value.int 0, Value.int 0, Value.int 0, Value.int 0, Value.int 0, Value.int 0, Value.int 0, Value.int 0, Value.int 0, Value.int 0, Value.int 0, Value.int 0, Value.int 0, Value.int 0, Value.int 0, Value.int 0, Value.int 0, Value.int 0, Value.int 0, Value.int 0, Value.int 0, Value.int 0, Value.int 0, Value.int 0, Value.int 0, Value.int 0, Value.int 0, Value.int 0, Value.int 0, Value.int 0, Value.int 0, Value.int 0, Value.int 0, Value.int 0, Value.int 0, Value.int 0, Value.int 0, Value.int 0, Value.int 0, Value.int 0, Value.int 0, Value.int 0, Value.int 0, Value.int 0, Value.int 0, Value.int 0, Value.int 0, Value.int 0, Value.int 0, Value.int 0, Value.int 0, Value.int 0, Value.int 0, Value.int 0, Value.int 0, Value.int 0, Value.int 0, Value.int 0, Value.int 0, Value.int 0, Value.int 0, Value.int 0, Value.int 0, Value.int 0, Value.int 0, Value.int 0, Value.int 0, Value.int 0, Value.int 0, Value.int 0, Value.int 0, Value.int 0, Value.int 0, Value.int 0, Value.int 0, Value.int 0, Value.int 0, Value.int 0, Value.int 0, Value.int 0, Value.int 0, Value.int 0, Value.int 0, Value.int 0, Value.int 0, Value.int 0, Value.int 0, Value.int 0, Value.int 0, Value.int 0, Value.int 0, Value.int 0, Value.int 0, Value.int 0, Value.int 0, Value.int 0, Value.int 0, Value.int 0, Value.int 0, Value.int 0, Value.int 0, Value.int 0, Value.int 0, Value.int 0, Value.int 0, Value.int 0, Value.int 0, Value.int 0, Value.int 0, Value.int 0, Value.int 0, Value.int 0, Value.int 0, Value.int 0, Value.int 0, Value.int 0, Value.int 0, Value.int 0, Value.int 0, Value.int 0, Value.int 0, Value.int 0, Value.int 0, Value.int 0, Value.int 0, Value.int 0, Value.int 0, Value.int 0, Value.int 0, Value.int 0, Value.int 0, Value.int 0, Value.int 0, Value.int 0, Value.int 0, Value.int 0, Value.int 0, Value.int 0, Value.int 0, Value.int 0, Value.int 0, Value.int 0, Value.int 0, Value.int 0, Value.int 0, Value.int 0, Value.int 0, Value.int 0, Value.int 0, Value.int 0, Value.int 0, Value.int 0, Value.int 0, Value.int 0, Value.int 0, Value.int 0, Value.int 0, Value.int 0, Value.int 0, Value.int 0, Value.int 0, Value.int 0, Value.int 0, Value.int 0, Value.int 0, Value.int 0, Value.int 0, Value.int 0, Value.int 0, Value.int 0, Value.int 0, Value.int 0, Value.int 0, Value.int 0, Value.int 0, Value.int 0, Value.int 0, Value.int 0, Value.int 0, Value.int 0, Value.int 0, Value.int 0, Value.int 0, Value.int 0, Value.int 0, Value.int 0, Value.int 0, Value.int 0, Value.int 0, Value.int 0, Value.int 0, Value.int 0, Value.int 0, Value.int 0, Value.int 0, Value.int 0, Value.int 0, Value.int 0, Value.int 0, Value.int 0, Value.int 0, Value.int 0, Value.int 0, Value.int 0, Value.int 0, Value.int 0, Value.int 0, Value.int 0, Value.int 0, Value.int 0, Value.int 0, Value.int 0, Value.int 0, Value.int 0, Value.int 0, Value.int 0, Value.int 0, Value.int 0, Value.int 0, Value.int 0, Value.int 0, Value.int 0, Value.int 0, Value.int 0, Value.int 0, Value.int 0, Value.int 0, Value.int 0, Value.int 0, Value.int 0, Value.int 0, Value.int 0, Value.int 0, Value.int 0, Value.int 0, Value.int 0, Value.int 0, Value.int 0, Value.int 0, Value.int 0, Value.int 0, Value.int 0, Value.int 0, Value.int 0, Value.int 0, Value.int 0, Value.int 0, Value.int 0, Value.int 0, Value.int 0, Value.int 0, Value.int 0, Value.int 0, Value.int 0, Value.int 0, Value.int 0, Value.int 0, Value.int 0, Value.int 0, Value.int 0, Value.int 0, Value.int 0, Value.int 0, Value.int 0, Value.int 0, Value.int 0, Value.int 0, Value.int 0, Value.int 0, Value.int 0, Value.int 0, Value.int 0, Value.int 0, Value.int 0, Value.int 0, Value.int 0, Value.int 0, Value.int 0, Value.int 0, Value.int 0, Value.int 0, Value.int 0, Value.int 0, Value.int 0, Value.int 0, Value.int 0, Value.int 0, Value.int 0, Value.int 0, Value.int 0, Value.int 0, Value.int 0, Value.int 0, Value.int 0, Value.int 0, Value.int 0, Value.int 0, Value.int 0, Value.int 0, Value.int 0, Value.int 0, Value.int 0, Value.int 0, Value.int 0, Value.int 0, Value.int 0, Value.int 0, Value.int 0, Value.int 0, Value.int 0, Value.int 0, Value.int 0, Value.int 0, Value.int 0, Value.int 0, Value.int 0, Value.int 0, Value.int 0, Value.int 0, Value.int 0, Value.int 0, Value.int 0, Value.int 0, Value.int 0, Value.int 0, Value.int 0, Value.int 0, Value.int 0, Value.int 0, Value.int 0, Value.int 0, Value.int 0, Value.int 0, Value.int 0, Value.int 0, Value.int 0, Value.int 0, Value.int 0, Value.int 0, Value.int 0, Value.int 0, Value.int 0, Value.int 0, Value.int 0, Value.int 0, Value.int 0, Value.int 0, Value.int 0, Value.int 0, Value.int 0, Value.int 0, Value.int 0, Value.int 0, Value.int 0, Value.int 0, Value.int 0, Value.int 0, Value.int 0, Value.int 0, Value.int 0, Value.int 0, Value.int 0, Value.int 0, Value.int 0, Value.int 0, Value.int 0, Value.int 0, Value.int 0, Value.int 0, Value.int 0, Value.int 0, Value.int 0, Value.int 0, Value.int 0, Value.int 0, Value.int 0, Value.int 0, Value.int 0, Value.int 0, Value.int 0, Value.int 0, Value.int 0, Value.int 0, Value.int 0, Value.int 0, Value.int 0, Value.int 0, Value.int 0, Value.int 0, Value.int 0, Value.int 0, Value.int 0, Value.int 0, Value.int 0, Value.int 0, Value.int 0, Value.int 0, Value.int 0, Value.int 0, Value.int 0, Value.int 0, Value.int 0, Value.int 0, Value.int 0, Value.int 0, Value.int 0, Value.int 0, Value.int 0, Value.int 0, Value.int 0, Value.int 0, Value.int 0, Value.int 0, Value.int 0, Value.int 0, Value.int 0, Value.int 0, Value.int 0, Value.int 0, Value.int 0, Value.int 0, Value.int 0, Value.int 0, Value.int 0, Value.int 0, Value.int 0, Value.int 0, Value.int 0, Value.int 0, Value.int 0, Value.int 0, Value.int 0, Value.int 0, Value.int 0, Value.int 0, Value.int 0, Value.int 0, Value.int 0, Value.int 0, Value.int 0, Value.int 0, Value.int 0, Value.int 0, Value.int 0, Value.int 0, Value.int 0, Value.int 0, Value.int 0, Value.int 0, Value.int 0, Value.int 0, Value.int 0, Value.int 0, Value.int 0, Value.int 0, Value.int 0, Value.int 0, Value.int 0, Value.int 0, Value.int 0, Value.int 0, Value.int 0, Value.int 0, Value.int 0, Value.int 0, Value.int 0, Value.int 0, Value.int 0, Value.int 0, Value.int 0, Value.int 0, Value.int 0, Value.int 0, Value.int 0, Value.int 0, Value.int 0, Value.int 0, Value.int 0, Value.int 0, Value.int 0, Value.int 0, Value.int 0, Value.int 0, Value.int 0, Value.int 0, Value.int 0, Value.int 0, Value.int 0, Value.int 0, Value.int 0, Value.int 0, Value.int 0, Value.int 0, Value.int 0, Value.int 0, Value.int 0, Value.int 0, Value.int 0, Value.int 0, Value.int 0, Value.int 0, Value.int 0, Value.int 0, Value.int 0, Value.int 0, Value.int 0, Value.int 0, Value.int 0, Value.int 0, Value.int 0, Value.int 0, Value.int 0, Value.int 0, Value.int 0, Value.int 0, Value.int 0, Value.int 0, Value.int 0, Value.int 0, Value.int 0, Value.int 0, Value.int 0, Value.int 0, Value.int 0, Value.int 0, Value.int 0, Value.int 0, Value.int 0, Value.int 0, Value.int 0, Value.int 0, Value.int 0, Value.int 0, Value.int 0, Value.int 0, Value.int 0, Value.int 0, Value.int 0, Value.int 0, Value.int 0, Value.int 0, Value.int 0, Value.int 0, Value.int 0, Value.int 0, Value.int 0, Value.int 0, Value.int 0, Value.int 0, Value.int 0, Value.int 0, Value.int 0, Value.int 0, Value.int 0, Value.int 0, Value.int 0, Value.int 0, Value.int 0, Value.int 0, Value.int 0, Value.int 0, Value.int 0, Value.int 0, Value.int 0, Value.int 0, Value.int 0, Value.int 0, Value.int 0, Value.int 0, Value.int 0, Value.int 0, Value.int 0, Value.int 0, Value.int 0, Value.int 0, Value.int 1, Value.int 0, Value.int 0, Value.int 0, Value.int 0, Value.int 0, Value.int 0, Value.int 0, Value.int 0, Value.int 0, Value.int 0, Value.int 0, Value.int 0, Value.int 0, Value.int 0, Value.int 0, Value.int 0, Value.int 0, Value.int 0, Value.int 0, Value.int 0, Value.int 0, Value.int 0, Value.int 0, Value.int 0, Value.int 0, Value.int 0, Value.int 0, Value.int 0, Value.int 0, Value.int 0, Value.int 0, Value.int 0, Value.int 0, Value.int 0, Value.int 0, Value.int 0, Value.int 0, Value.int 0, Value.int 0, Value.int 0, Value.int 0, Value.int 0, Value.int 0, Value.int 0, Value.int 0, Value.int 0, Value.int 0, Value.int 0, Value.int 0, Value.int 0, Value.int 0, Value.int 0, Value.int 0, Value.int 0, Value.int 0, Value.int 0, Value.int 0, Value.int 0, Value.int 0, Value.int 0, Value.int 0, Value.int 0, Value.int 0, Value.int 0, Value.int 0, Value.int 0, Value.int 0, Value.int 0, Value.int 0, Value.int 0, Value.int 0, Value.int 0, Value.int 0, Value.int 0, Value.int 0, Value.int 0, Value.int 0, Value.int 0, Value.int 0, Value.int 0, Value.int 0, Value.int 0, Value.int 0, Value.int 0, Value.int 0, Value.int 0, Value.int 0, Value.int 0, Value.int 0, Value.int 0, Value.int 0, Value.int 0, Value.int 0, Value.int 0, Value.int 0, Value.int 0, Value.int 0, Value.int 0, Value.int 0, Value.int 0, Value.int 0, Value.int 0, Value.int 0, Value.int 0, Value.int 0, Value.int 0, Value.int 0, Value.int 0, Value.int 0, Value.int 0, Value.int 0, Value.int 0, Value.int 0, Value.int 0, Value.int 0, Value.int 0, Value.int 0, Value.int 0, Value.int 0, Value.int 0, Value.int 0, Value.int 0, Value.int 0, Value.int 0, Value.int 0, Value.int 0, Value.int 0, Value.int 0, Value.int 0] : List Value))).set 155 (13, ([Value.int 0, Value.int 0, Value.int 0, Value.int 0, Value.int 0, Value.int 0, Value.int 0, Value.int 0, Value.int 0, Value.int 0, Value.int 1] : List Value))).set 157 (15, ([Value.int 0, Value.int 0, Value.int 0, Value.int 0, Value.int 0, Value.int 0, Value.int 0, Value.int 0, Value.int 0, Value.int 0, Value.int 0, Value.int 0, Value.int 0, Value.int 0, Value.int 0, Value.int 0, Value.int 0, Value.int 0, Value.int 0, Value.int 0, Value.int 0, Value.int 0, Value.int 0, Value.int 0, Value.int 0, Value.int 0, Value.int 0, Value.int 0, Value.int 0, Value.int 0, Value.int 0, Value.int 0, Value.int 0, Value.int 0, Value.int 0, Value.int 0, Value.int 0, Value.int 0, Value.int 0, Value.int 0, Value.int 0, Value.int 0, Value.int 0, Value.int 0, Value.int 0, Value.int 0, Value.int 0, Value.int 0, Value.int 0, Value.int 0, Value.int 0, Value.int 0, Value.int 0, Value.int 0, Value.int 0, Value.int 0, Value.int 0, Value.int 0, Value.int 0, Value.int 0, Value.int 0, Value.int 0, Value.int 0, Value.int 0, Value.int 0, Value.int 0, Value.int 0, Value.int 0, Value.int 0, Value.int 0, Value.int 0, Value.int 0, Value.int 0, Value.int 0, Value.int 0, Value.int 0, Value.int 0, Value.int 0, Value.int 0, Value.int 0, Value.int 0, Value.int 0, Value.int 0, Value.int 0, Value.int 0, Value.int 0, Value.int 0, Value.int 0, Value.int 0, Value.int 0, Value.int 0, Value.int 0, Value.int 0, Value.int 0, Value.int 0, Value.int 0, Value.int 0, Value.int 0, Value.int 0, Value.int 0, Value.int 0, Value.int 0, Value.int 0, Value.int 0, Value.int 0, Value.int 0, Value.int 0, Value.int 0, Value.int 0, Value.int 0, Value.int 0, Value.int 0, Value.int 0, Value.int 0, Value.int 0, Value.int 0, Value.int 0, Value.int 0, Value.int 0, Value.int 0, Value.int 0, Value.int 0, Value.int 0, Value.int 0, Value.int 0, Value.int 0, Value.int 0, Value.int 0, Value.int 0, Value.int 0, Value.int 0, Value.int 0, Value.int 0, Value.int 0, Value.int 0, Value.int 0, Value.int 0, Value.int 0, Value.int 0, Value.int 0, Value.int 0, Value.int 0, Value.int 0, Value.int 0, Value.int 0, Value.int 0, Value.int 0, Value.int 0, Value.int 0, Value.int 0, Value.int 0, Value.int 0, Value.int 0, Value.int 0, Value.int 0, Value.int 0, Value.int 0, Value.int 0, Value.int 0, Value.int 0, Value.int 0, Value.int 0, Value.int 0, Value.int 0, Value.int 0, Value.int 0, Value.int 0, Value.int 0, Value.int 0, Value.int 0, Value.int 0, Value.int 0, Value.int 0, Value.int 0, Value.int 0, Value.int 0, Value.int 0, Value.int 0, Value.int 0, Value.int 0, Value.int 0, Value.int 0, Value.int 0, Value.int 0, Value.int 0, Value.int 0, Value.int 0, Value.int 0, Value.int 0, Value.int 0, Value.int 0, Value.int 0, Value.int 0, Value.int 0, Value.int 0, Value.int 0, Value.int 0, Value.int 0, Value.int 0, Value.int 0, Value.int 0, Value.int 0, Value.int 0, Value.int 0, Value.int 0, Value.int 0, Value.int 0, Value.int 0, Value.int 0, Value.int 0, Value.int 0, Value.int 0, Value.int 0, Value.int 0, Value.int 0, Value.int 0, Value.int 0, Value.int 0, Value.int 0, Value.int 0, Value.int 0, Value.int 0, Value.int 0, Value.int 0, Value.int 0, Value.int 0, Value.int 0, Value.int 0, Value.int 0, Value.int 0, Value.int 0, Value.int 0, Value.int 0, Value.int 0, Value.int 0, Value.int 0, Value.int 0, Value.int 0, Value.int 0, Value.int 0, Value.int 0, Value.int 0, Value.int 0, Value.int 0, Value.int 0, Value.int 0, Value.int 0, Value.int 0, Value.int 0, Value.int 0, Value.int 0, Value.int 0, Value.int 0, Value.int 0, Value.int 0, Value.int 0, Value.int 0, Value.int 0, Value.int 0, Value.int 0, Value.int 0, Value.int 0, Value.int 0, Value.int 0, Value.int 0, Value.int 0, Value.int 0, Value.int 0, Value.int 0, Value.int 0, Value.int 0, Value.int 0, Value.int 0, Value.int 0, Value.int 0, Value.int 0, Value.int 0, Value.int 0, Value.int 0, Value.int 0, Value.int 0, Value.int 0, Value.int 0, Value.int 0, Value.int 0, Value.int 0, Value.int 0, Value.int 0, Value.int 0, Value.int 0, Value.int 0, Value.int 0, Value.int 0, Value.int 0, Value.int 0, Value.int 0, Value.int 0, Value.int 0, Value.int 0, Value.int 0, Value.int 0, Value.int 0, Value.int 0, Value.int 0, Value.int 0, Value.int 0, Value.int 0, Value.int 0, Value.int 0, Value.int 0, Value.int 0, Value.int 0, Value.int 0, Value.int 0, Value.int 0, Value.int 0, Value.int 0, Value.int 0, Value.int 0, Value.int 0, Value.int 0, Value.int 0, Value.int 0, Value.int 0, Value.int 0, Value.int 0, Value.int 0, Value.int 0, Value.int 0, Value.int 0, Value.int 0, Value.int 0, Value.int 0, Value.int 0, Value.int 0, Value.int 0, Value.int 0, Value.int 0, Value.int 0, Value.int 0, Value.int 0, Value.int 0, Value.int 0, Value.int 0, Value.int 0, Value.int 0, Value.int 0, Value.int 0, Value.int 0, Value.int 0, Value.int 0, Value.int 0, Value.int 0, Value.int 0, Value.int 0, Value.int 0, Value.int 0, Value.int 0, Value.int 0, Value.int 0, Value.int 0, Value.int 0, Value.int 0, Value.int 0, Value.int 0, Value.int 0, Value.int 0, Value.int 0, Value.int 0, Value.int 0, Value.int 0, Value.int 0, Value.int 0, Value.int 0, Value.int 0, Value.int 0, Value.int 0, Value.int 0, Value.int 0, Value.int 0, Value.int 0, Value.int 0, Value.int 0, Value.int 0, Value.int 0, Value.int 0, Value.int 0, Value.int 0, Value.int 0, Value.int 0, Value.int 0, Value.int 0, Value.int 0, Value.int 0, Value.int 0, Value.int 0, Value.int 0, Value.int 0, Value.int 0, Value.int 0, Value.int 0, Value.int 0, Value.int 0, Value.int 0, Value.int 0, Value.int 0, Value.int 0, Value.int 0, Value.int 0, Value.int 0, Value.int 0, Value.int 0, Value.int 0, Value.int 0, Value.int 0, Value.int 0, Value.int 0, Value.int 0, Value.int 0, Value.int 0, Value.int 0, Value.int 0, Value.int 0, Value.int 0, Value.int 0, Value.int 0, Value.int 0, Value.int 0, Value.int 0, Value.int 0, Value.int 0, Value.int 0, Value.int 0, Value.int 0, Value.int 0, Value.int 0, Value.int 0, Value.int 0, Value.int 0, Value.int 0, Value.int 0, Value.int 0, Value.int 0, Value.int 0, Value.int 0, Value.int 0, Value.int 0, Value.int 0, Value.int 0, Value.int 0, Value.int 0, Value.int 0, Value.int 0, Value.int 0, Value.int 0, Value.int 0, Value.int 0, Value.int 0, Value.int 0, Value.int 0, Value.int 0, Value.int 0, Value.int 0, Value.int 0, Value.int 0, Value.int 0, Value.int 0, Value.int 0, Value.int 0, Value.int 0, Value.int 0, Value.int 0, Value.int 0, Value.int 0, Value.int 0, Value.int 0, Value.int 0, Value.int 0, Value.int 0, Value.int 0, Value.int 0, Value.int 0, Value.int 0, Value.int 0, Value.int 0, Value.int 0, Value.int 0, Value.int 0, Value.int 0, Value.int 0, Value.int 0, Value.int 0, Value.int 0, Value.int 0, Value.int 0, Value.int 0, Value.int 0, Value.int 0, Value.int 0, Value.int 0, Value.int 0, Value.int 0, Value.int 0, Value.int 0, Value.int 0, Value.int 0, Value.int 0, Value.int 0, Value.int 0, Value.int 0, Value.int 0, Value.int 0, Value.int 0, Value.int 0, Value.int 0, Value.int 0, Value.int 0, Value.int 0, Value.int 0, Value.int 0, Value.int 0, Value.int 0, Value.int 0, Value.int 0, Value.int 0, Value.int 0, Value.int 0, Value.int 0, Value.int 0, Value.int 0, Value.int 0, Value.int 0, Value.int 0, Value.int 0, Value.int 0, Value.int 0, Value.int 0, Value.int 0, Value.int 0, Value.int 0, Value.int 0, Value.int 0, Value.int 0, Value.int 0, Value.int 0, Value.int 0, Value.int 0, Value.int 0, Value.int 0, Value.int 0, Value.int 0, Value.int 0, Value.int 0, Value.int 0, Value.int 0, Value.int 0, Value.int 0, Value.int 0, Value.int 0, Value.int 0, Value.int 0, Value.int 0, Value.int 0, Value.int 0, Value.int 0, Value.int 0, Value.int 0, Value.int 0, Value.int 0, Value.int 0, Value.int 0, Value.int 0, Value.int 0, Value.int 0, Value.int 0, Value.int 0, Value.int 0, Value.int 0, Value.int 0, Value.int 0, Value.int 0, Value.int 0, Value.int 0, Value.int 0, Value.int 0, Value.int 0, Value.int 0, Value.int 0, Value.int 0, Value.int 0, Value.int 0, Value.int 0, Value.int 0, Value.int 0, Value.int 0, Value.int 0, Value.int 0, Value.int 0, Value.int 0, Value.int 0, Value.int 0, Value.int 0, Value.int 0, Value.int 0, Value.int 0, Value.int 0, Value.int 0, Value.int 0, Value.int 0, Value.int 0, Value.int 1, Value.int 0, Value.int 0, Value.int 0, Value.int 0, Value.int 0, Value.int 0, Value.int 0, Value.int 0, Value.int 0, Value.int 0, Value.int 0, Value.int 0, Value.int 0, Value.int 0, Value.int 0, Value.int 0, Value.int 0, Value.int 0, Value.int 0, Value.int 0, Value.int 0, Value.int 0, Value.int 0, Value.int 0, Value.int 0, Value.int 0, Value.int 0, Value.int 0, Value.int 0, Value.int 0, Value.int 0, Value.int 0, Value.int 0, Value.int 0, Value.int 0, Value.int 0, Value.int 0, Value.int 0, Value.int 0, Value.int 0, Value.int 0, Value.int 0, Value.int 0, Value.int 0, Value.int 0, Value.int 0, Value.int 0, Value.int 0, Value.int 0, Value.int 0, Value.int 0, Value.int 0, Value.int 0, Value.int 0, Value.int 0, Value.int 0, Value.int 0, Value.int 0, Value.int 0, Value.int 0] : List Value))) = true := by decide +kernel
set_option maxHeartbeats 20000000 in
set_option maxRecDepth 100000 in
theorem s_op_feed (L : Nat) (xs : Nat → Int32) (a : Int32) : s_Ek (s_rows 3 L xs) 1299 s_e134.1 0 (lv_args 0 [.ref 0, .int a]) [] s_M0 (fun v M1 => ∃ r : Int32, v = some (.int r) ∧ s_Ek (s_rows 3 L xs) 1299 s_e183.1 0 (lv_args 0 [.ref 151, .int a]) [] M1 (fun w _ => w = some (.int r))) := by
  show s_Ek (s_rows 3 L xs) 1299 s_e134.1 0 [(0, .ref 0), (1, .int a)] [] s_M0 _
  refine s_ek_bk 1 (P := 1) (ls' := [(0, .ref 0), (1, .int a)]) (st' := [.int a]) (M' := s_M0) rfl ?_
  refine s_ek_if1 (T := 11) rfl rfl (fun h1 => ?_) (fun h1 => ?_)
  · replace h1 : a.toInt < 0 := h1
    refine s_ek_bk 1 (P := 12) (ls' := [(0, .ref 0), (1, .int a)]) (st' := [.int (-1)]) (M' := s_M0) rfl ?_
    refine s_ek_ret (o := some (.int (-1))) (fun _ => rfl) ?_
    refine ⟨(-1), rfl, ?_⟩
    show s_Ek (s_rows 3 L xs) 1299 s_e183.1 0 [(0, .ref 151), (1, .int a)] [] s_M0 _
    refine s_ek_bk 3 (P := 5) (ls' := [(0, .ref 151), (1, .int a)]) (st' := [.int 255, .int 0, .int a]) (M' := s_M0) rfl ?_
    refine s_ek_call (ν := s_e181.1) (P := 8) (as := [.int a, .int 0, .int 255]) (r := []) (fun _ => rfl) rfl ?_
    show s_Ek (s_rows 3 L xs) 1298 s_e181.1 0 [(0, .int a), (1, .int 0), (2, .int 255)] [] s_M0 _
    refine s_ek_bk 2 (P := 2) (ls' := [(0, .int a), (1, .int 0), (2, .int 255)]) (st' := [.int 0, .int a]) (M' := s_M0) rfl ?_
    refine s_ek_if2 (T := 14) rfl rfl (fun h2 => ?_) (fun h2 => ?_)
    · replace h2 : a.toInt < 0 := h2
      refine s_ek_bk 1 (P := 15) (ls' := [(0, .int a), (1, .int 0), (2, .int 255)]) (st' := [.int 0]) (M' := s_M0) rfl ?_
      refine s_ek_ret (o := some (.int 0)) (fun _ => rfl) ?_
      show s_Ek (s_rows 3 L xs) 1299 s_e183.1 8 [(0, .ref 151), (1, .int a)] [.int 0] s_M0 _
      refine s_ek_bk 2 (P := 12) (ls' := [(0, .ref 151), (1, .int a)]) (st' := [.int (-1)]) (M' := s_M0) rfl ?_
      refine s_ek_ret (o := some (.int (-1))) (fun _ => rfl) ?_
      exact rfl
    · replace h2 : ¬ (a.toInt < 0) := h2
      replace h2 : 0 ≤ a.toInt := by omega
      omega
  · replace h1 : ¬ (a.toInt < 0) := h1
    replace h1 : 0 ≤ a.toInt := by omega
    refine s_ek_bk 2 (P := 8) (ls' := [(0, .ref 0), (1, .int a)]) (st' := [.int 255, .int a]) (M' := s_M0) rfl ?_
    refine s_ek_if2 (T := 13) rfl rfl (fun h2 => ?_) (fun h2 => ?_)
    · replace h2 : a.toInt ≤ 255 := h2
      refine s_ek_bk 15 (P := 45) (ls' := [(0, .ref 0), (1, .int a)]) (st' := []) (M' := (s_M0.set 1 (13, ((List.replicate 60 (Value.int 0)).set 0 (Value.int a))))) rfl ?_
      refine s_ek_bk 6 (P := 55) (ls' := [(0, .ref 0), (1, .int a)]) (st' := []) (M' := ((s_M0.set 1 (13, ((List.replicate 60 (Value.int 0)).set 0 (Value.int a)))).set 0 (10, ([Value.ref 1, Value.int 0, Value.ref 2, Value.ref 3, Value.ref 8, Value.ref 73, Value.ref 78, Value.ref 132, Value.ref 135, Value.ref 136, Value.ref 138, Value.int (-1)].set 1 (Value.int 1))))) rfl ?_
      refine s_ek_bk 2 (P := 59) (ls' := [(0, .ref 0), (1, .int a)]) (st' := [.int 1]) (M' := ((s_M0.set 1 (13, ((List.replicate 60 (Value.int 0)).set 0 (Value.int a)))).set 0 (10, ([Value.ref 1, Value.int 0, Value.ref 2, Value.ref 3, Value.ref 8, Value.ref 73, Value.ref 78, Value.ref 132, Value.ref 135, Value.ref 136, Value.ref 138, Value.int (-1)].set 1 (Value.int 1))))) rfl ?_
      refine s_ek_ret (o := some (.int 1)) (fun _ => rfl) ?_
      refine ⟨1, rfl, ?_⟩
      show s_Ek (s_rows 3 L xs) 1299 s_e183.1 0 [(0, .ref 151), (1, .int a)] [] ((s_M0.set 1 (13, ((List.replicate 60 (Value.int 0)).set 0 (Value.int a)))).set 0 (10, ([Value.ref 1, Value.int 0, Value.ref 2, Value.ref 3, Value.ref 8, Value.ref 73, Value.ref 78, Value.ref 132, Value.ref 135, Value.ref 136, Value.ref 138, Value.int (-1)].set 1 (Value.int 1)))) _
      refine s_ek_bk 3 (P := 5) (ls' := [(0, .ref 151), (1, .int a)]) (st' := [.int 255, .int 0, .int a]) (M' := ((s_M0.set 1 (13, ((List.replicate 60 (Value.int 0)).set 0 (Value.int a)))).set 0 (10, ([Value.ref 1, Value.int 0, Value.ref 2, Value.ref 3, Value.ref 8, Value.ref 73, Value.ref 78, Value.ref 132, Value.ref 135, Value.ref 136, Value.ref 138, Value.int (-1)].set 1 (Value.int 1))))) rfl ?_
      refine s_ek_call (ν := s_e181.1) (P := 8) (as := [.int a, .int 0, .int 255]) (r := []) (fun _ => rfl) rfl ?_
      show s_Ek (s_rows 3 L xs) 1298 s_e181.1 0 [(0, .int a), (1, .int 0), (2, .int 255)] [] ((s_M0.set 1 (13, ((List.replicate 60 (Value.int 0)).set 0 (Value.int a)))).set 0 (10, ([Value.ref 1, Value.int 0, Value.ref 2, Value.ref 3, Value.ref 8, Value.ref 73, Value.ref 78, Value.ref 132, Value.ref 135, Value.ref 136, Value.ref 138, Value.int (-1)].set 1 (Value.int 1)))) _
      refine s_ek_bk 2 (P := 2) (ls' := [(0, .int a), (1, .int 0), (2, .int 255)]) (st' := [.int 0, .int a]) (M' := ((s_M0.set 1 (13, ((List.replicate 60 (Value.int 0)).set 0 (Value.int a)))).set 0 (10, ([Value.ref 1, Value.int 0, Value.ref 2, Value.ref 3, Value.ref 8, Value.ref 73, Value.ref 78, Value.ref 132, Value.ref 135, Value.ref 136, Value.ref 138, Value.int (-1)].set 1 (Value.int 1))))) rfl ?_
      refine s_ek_if2 (T := 14) rfl rfl (fun h3 => ?_) (fun h3 => ?_)
      · replace h3 : a.toInt < 0 := h3
        omega
      · replace h3 : ¬ (a.toInt < 0) := h3
        replace h3 : 0 ≤ a.toInt := by omega
        refine s_ek_bk 2 (P := 7) (ls' := [(0, .int a), (1, .int 0), (2, .int 255)]) (st' := [.int 255, .int a]) (M' := ((s_M0.set 1 (13, ((List.replicate 60 (Value.int 0)).set 0 (Value.int a)))).set 0 (10, ([Value.ref 1, Value.int 0, Value.ref 2, Value.ref 3, Value.ref 8, Value.ref 73, Value.ref 78, Value.ref 132, Value.ref 135, Value.ref 136, Value.ref 138, Value.int (-1)].set 1 (Value.int 1))))) rfl ?_
        refine s_ek_if2 (T := 14) rfl rfl (fun h4 => ?_) (fun h4 => ?_)
        · replace h4 : 255 < a.toInt := h4
          omega
        · replace h4 : ¬ (255 < a.toInt) := h4
          replace h4 : a.toInt ≤ 255 := by omega
          refine s_ek_bk 2 (P := 15) (ls' := [(0, .int a), (1, .int 0), (2, .int 255)]) (st' := [.int 1]) (M' := ((s_M0.set 1 (13, ((List.replicate 60 (Value.int 0)).set 0 (Value.int a)))).set 0 (10, ([Value.ref 1, Value.int 0, Value.ref 2, Value.ref 3, Value.ref 8, Value.ref 73, Value.ref 78, Value.ref 132, Value.ref 135, Value.ref 136, Value.ref 138, Value.int (-1)].set 1 (Value.int 1))))) rfl ?_
          refine s_ek_ret (o := some (.int 1)) (fun _ => rfl) ?_
          show s_Ek (s_rows 3 L xs) 1299 s_e183.1 8 [(0, .ref 151), (1, .int a)] [.int 1] ((s_M0.set 1 (13, ((List.replicate 60 (Value.int 0)).set 0 (Value.int a)))).set 0 (10, ([Value.ref 1, Value.int 0, Value.ref 2, Value.ref 3, Value.ref 8, Value.ref 73, Value.ref 78, Value.ref 132, Value.ref 135, Value.ref 136, Value.ref 138, Value.int (-1)].set 1 (Value.int 1)))) _
          refine s_ek_bk 12 (P := 36) (ls' := [(0, .ref 151), (1, .int a)]) (st' := []) (M' := (((s_M0.set 1 (13, ((List.replicate 60 (Value.int 0)).set 0 (Value.int a)))).set 0 (10, ([Value.ref 1, Value.int 0, Value.ref 2, Value.ref 3, Value.ref 8, Value.ref 73, Value.ref 78, Value.ref 132, Value.ref 135, Value.ref 136, Value.ref 138, Value.int (-1)].set 1 (Value.int 1)))).set 152 (12, ((List.replicate 60 (Value.int 0)).set 0 (Value.int (vp_nar .byte (a).toInt8.toInt32)))))) rfl ?_
          refine s_ek_bk 6 (P := 46) (ls' := [(0, .ref 151), (1, .int a)]) (st' := []) (M' := ((((s_M0.set 1 (13, ((List.replicate 60 (Value.int 0)).set 0 (Value.int a)))).set 0 (10, ([Value.ref 1, Value.int 0, Value.ref 2, Value.ref 3, Value.ref 8, Value.ref 73, Value.ref 78, Value.ref 132, Value.ref 135, Value.ref 136, Value.ref 138, Value.int (-1)].set 1 (Value.int 1)))).set 152 (12, ((List.replicate 60 (Value.int 0)).set 0 (Value.int (vp_nar .byte (a).toInt8.toInt32))))).set 151 (11, ([Value.int 0, Value.ref 152, Value.int 0, Value.int 0, Value.int 0, Value.int 0, Value.int 0, Value.ref 153, Value.ref 154, Value.ref 155, Value.ref 156, Value.ref 157, Value.ref 158, Value.ref 159, Value.int 0, Value.ref 160, Value.ref 161, Value.ref 162, Value.int 0, Value.int 99, Value.ref 163, Value.ref 164, Value.ref 165, Value.int 0, Value.int 0, Value.ref 166, Value.ref 167, Value.ref 168, Value.ref 169, Value.ref 170, Value.int 0, Value.int 0, Value.ref 171, Value.ref 172, Value.ref 173, Value.int 0, Value.int 0, Value.ref 174, Value.ref 175, Value.ref 176, Value.ref 177, Value.ref 178, Value.int 0, Value.ref 179, Value.int 0, Value.ref 180, Value.ref 181, Value.ref 182, Value.ref 183, Value.ref 184].set 2 (Value.int 1))))) rfl ?_
          refine s_ek_bk 2 (P := 50) (ls' := [(0, .ref 151), (1, .int a)]) (st' := [.int 1]) (M' := ((((s_M0.set 1 (13, ((List.replicate 60 (Value.int 0)).set 0 (Value.int a)))).set 0 (10, ([Value.ref 1, Value.int 0, Value.ref 2, Value.ref 3, Value.ref 8, Value.ref 73, Value.ref 78, Value.ref 132, Value.ref 135, Value.ref 136, Value.ref 138, Value.int (-1)].set 1 (Value.int 1)))).set 152 (12, ((List.replicate 60 (Value.int 0)).set 0 (Value.int (vp_nar .byte (a).toInt8.toInt32))))).set 151 (11, ([Value.int 0, Value.ref 152, Value.int 0, Value.int 0, Value.int 0, Value.int 0, Value.int 0, Value.ref 153, Value.ref 154, Value.ref 155, Value.ref 156, Value.ref 157, Value.ref 158, Value.ref 159, Value.int 0, Value.ref 160, Value.ref 161, Value.ref 162, Value.int 0, Value.int 99, Value.ref 163, Value.ref 164, Value.ref 165, Value.int 0, Value.int 0, Value.ref 166, Value.ref 167, Value.ref 168, Value.ref 169, Value.ref 170, Value.int 0, Value.int 0, Value.ref 171, Value.ref 172, Value.ref 173, Value.int 0, Value.int 0, Value.ref 174, Value.ref 175, Value.ref 176, Value.ref 177, Value.ref 178, Value.int 0, Value.ref 179, Value.int 0, Value.ref 180, Value.ref 181, Value.ref 182, Value.ref 183, Value.ref 184].set 2 (Value.int 1))))) rfl ?_
          refine s_ek_ret (o := some (.int 1)) (fun _ => rfl) ?_
          exact rfl
    · replace h2 : ¬ (a.toInt ≤ 255) := h2
      replace h2 : 255 < a.toInt := by omega
      refine s_ek_bk 1 (P := 12) (ls' := [(0, .ref 0), (1, .int a)]) (st' := [.int (-1)]) (M' := s_M0) rfl ?_
      refine s_ek_ret (o := some (.int (-1))) (fun _ => rfl) ?_
      refine ⟨(-1), rfl, ?_⟩
      show s_Ek (s_rows 3 L xs) 1299 s_e183.1 0 [(0, .ref 151), (1, .int a)] [] s_M0 _
      refine s_ek_bk 3 (P := 5) (ls' := [(0, .ref 151), (1, .int a)]) (st' := [.int 255, .int 0, .int a]) (M' := s_M0) rfl ?_
      refine s_ek_call (ν := s_e181.1) (P := 8) (as := [.int a, .int 0, .int 255]) (r := []) (fun _ => rfl) rfl ?_
      show s_Ek (s_rows 3 L xs) 1298 s_e181.1 0 [(0, .int a), (1, .int 0), (2, .int 255)] [] s_M0 _
      refine s_ek_bk 2 (P := 2) (ls' := [(0, .int a), (1, .int 0), (2, .int 255)]) (st' := [.int 0, .int a]) (M' := s_M0) rfl ?_
      refine s_ek_if2 (T := 14) rfl rfl (fun h3 => ?_) (fun h3 => ?_)
      · replace h3 : a.toInt < 0 := h3
        omega
      · replace h3 : ¬ (a.toInt < 0) := h3
        replace h3 : 0 ≤ a.toInt := by omega
        refine s_ek_bk 2 (P := 7) (ls' := [(0, .int a), (1, .int 0), (2, .int 255)]) (st' := [.int 255, .int a]) (M' := s_M0) rfl ?_
        refine s_ek_if2 (T := 14) rfl rfl (fun h4 => ?_) (fun h4 => ?_)
        · replace h4 : 255 < a.toInt := h4
          refine s_ek_bk 1 (P := 15) (ls' := [(0, .int a), (1, .int 0), (2, .int 255)]) (st' := [.int 0]) (M' := s_M0) rfl ?_
          refine s_ek_ret (o := some (.int 0)) (fun _ => rfl) ?_
          show s_Ek (s_rows 3 L xs) 1299 s_e183.1 8 [(0, .ref 151), (1, .int a)] [.int 0] s_M0 _
          refine s_ek_bk 2 (P := 12) (ls' := [(0, .ref 151), (1, .int a)]) (st' := [.int (-1)]) (M' := s_M0) rfl ?_
          refine s_ek_ret (o := some (.int (-1))) (fun _ => rfl) ?_
          exact rfl
        · replace h4 : ¬ (255 < a.toInt) := h4
          replace h4 : a.toInt ≤ 255 := by omega
          omega
set_option maxHeartbeats 20000000 in
set_option maxRecDepth 100000 in
theorem s_op_law (L : Nat) (xs : Nat → Int32) (a : Int32) (b : Int32) : s_Ek (s_rows 3 L xs) 1299 s_e135.1 0 (lv_args 0 [.ref 0, .int a, .int b]) [] s_M0 (fun v M1 => ∃ r : Int32, v = some (.int r) ∧ s_Ek (s_rows 3 L xs) 1299 s_e204.1 0 (lv_args 0 [.ref 151, .int a, .int b]) [] M1 (fun w _ => w = some (.int r))) := by
  show s_Ek (s_rows 3 L xs) 1299 s_e135.1 0 [(0, .ref 0), (1, .int a), (2, .int b)] [] s_M0 _
  refine s_ek_bk 1 (P := 1) (ls' := [(0, .ref 0), (1, .int a), (2, .int b)]) (st' := [.int a]) (M' := s_M0) rfl ?_
  refine s_ek_call (ν := s_e169.1) (P := 4) (as := [.int a]) (r := []) (fun _ => rfl) rfl ?_
  show s_Ek (s_rows 3 L xs) 1298 s_e169.1 0 [(0, .int a)] [] s_M0 _
  refine s_ek_bk 1 (P := 1) (ls' := [(0, .int a)]) (st' := [.int a]) (M' := s_M0) rfl ?_
  refine s_ek_if1 (T := 14) rfl rfl (fun h1 => ?_) (fun h1 => ?_)
  · replace h1 : a.toInt < 0 := h1
    refine s_ek_bk 1 (P := 15) (ls' := [(0, .int a)]) (st' := [.int 0]) (M' := s_M0) rfl ?_
    refine s_ek_ret (o := some (.int 0)) (fun _ => rfl) ?_
    show s_Ek (s_rows 3 L xs) 1299 s_e135.1 4 [(0, .ref 0), (1, .int a), (2, .int b)] [.int 0] s_M0 _
    refine s_ek_bk 2 (P := 15) (ls' := [(0, .ref 0), (1, .int a), (2, .int b)]) (st' := [.int (-1)]) (M' := s_M0) rfl ?_
    refine s_ek_ret (o := some (.int (-1))) (fun _ => rfl) ?_
    refine ⟨(-1), rfl, ?_⟩
    show s_Ek (s_rows 3 L xs) 1299 s_e204.1 0 [(0, .ref 151), (1, .int a), (2, .int b)] [] s_M0 _
    refine s_ek_bk 3 (P := 4) (ls' := [(0, .ref 151), (1, .int a), (2, .int b)]) (st' := [.int 99, .int 0, .int a]) (M' := s_M0) rfl ?_
    refine s_ek_call (ν := s_e181.1) (P := 7) (as := [.int a, .int 0, .int 99]) (r := []) (fun _ => rfl) rfl ?_
    show s_Ek (s_rows 3 L xs) 1298 s_e181.1 0 [(0, .int a), (1, .int 0), (2, .int 99)] [] s_M0 _
    refine s_ek_bk 2 (P := 2) (ls' := [(0, .int a), (1, .int 0), (2, .int 99)]) (st' := [.int 0, .int a]) (M' := s_M0) rfl ?_
    refine s_ek_if2 (T := 14) rfl rfl (fun h2 => ?_) (fun h2 => ?_)
    · replace h2 : a.toInt < 0 := h2
      refine s_ek_bk 1 (P := 15) (ls' := [(0, .int a), (1, .int 0), (2, .int 99)]) (st' := [.int 0]) (M' := s_M0) rfl ?_
      refine s_ek_ret (o := some (.int 0)) (fun _ => rfl) ?_
      show s_Ek (s_rows 3 L xs) 1299 s_e204.1 7 [(0, .ref 151), (1, .int a), (2, .int b)] [.int 0] s_M0 _
      refine s_ek_bk 2 (P := 20) (ls' := [(0, .ref 151), (1, .int a), (2, .int b)]) (st' := [.int (-1)]) (M' := s_M0) rfl ?_
      refine s_ek_ret (o := some (.int (-1))) (fun _ => rfl) ?_
      exact rfl
    · replace h2 : ¬ (a.toInt < 0) := h2
      replace h2 : 0 ≤ a.toInt := by omega
      omega
  · replace h1 : ¬ (a.toInt < 0) := h1
    replace h1 : 0 ≤ a.toInt := by omega
    refine s_ek_bk 2 (P := 7) (ls' := [(0, .int a)]) (st' := [.int 99, .int a]) (M' := s_M0) rfl ?_
    refine s_ek_if2 (T := 14) rfl rfl (fun h2 => ?_) (fun h2 => ?_)
    · replace h2 : 99 < a.toInt := h2
      refine s_ek_bk 1 (P := 15) (ls' := [(0, .int a)]) (st' := [.int 0]) (M' := s_M0) rfl ?_
      refine s_ek_ret (o := some (.int 0)) (fun _ => rfl) ?_
      show s_Ek (s_rows 3 L xs) 1299 s_e135.1 4 [(0, .ref 0), (1, .int a), (2, .int b)] [.int 0] s_M0 _
      refine s_ek_bk 2 (P := 15) (ls' := [(0, .ref 0), (1, .int a), (2, .int b)]) (st' := [.int (-1)]) (M' := s_M0) rfl ?_
      refine s_ek_ret (o := some (.int (-1))) (fun _ => rfl) ?_
      refine ⟨(-1), rfl, ?_⟩
      show s_Ek (s_rows 3 L xs) 1299 s_e204.1 0 [(0, .ref 151), (1, .int a), (2, .int b)] [] s_M0 _
      refine s_ek_bk 3 (P := 4) (ls' := [(0, .ref 151), (1, .int a), (2, .int b)]) (st' := [.int 99, .int 0, .int a]) (M' := s_M0) rfl ?_
      refine s_ek_call (ν := s_e181.1) (P := 7) (as := [.int a, .int 0, .int 99]) (r := []) (fun _ => rfl) rfl ?_
      show s_Ek (s_rows 3 L xs) 1298 s_e181.1 0 [(0, .int a), (1, .int 0), (2, .int 99)] [] s_M0 _
      refine s_ek_bk 2 (P := 2) (ls' := [(0, .int a), (1, .int 0), (2, .int 99)]) (st' := [.int 0, .int a]) (M' := s_M0) rfl ?_
      refine s_ek_if2 (T := 14) rfl rfl (fun h3 => ?_) (fun h3 => ?_)
      · replace h3 : a.toInt < 0 := h3
        omega
      · replace h3 : ¬ (a.toInt < 0) := h3
        replace h3 : 0 ≤ a.toInt := by omega
        refine s_ek_bk 2 (P := 7) (ls' := [(0, .int a), (1, .int 0), (2, .int 99)]) (st' := [.int 99, .int a]) (M' := s_M0) rfl ?_
        refine s_ek_if2 (T := 14) rfl rfl (fun h4 => ?_) (fun h4 => ?_)
        · replace h4 : 99 < a.toInt := h4
          refine s_ek_bk 1 (P := 15) (ls' := [(0, .int a), (1, .int 0), (2, .int 99)]) (st' := [.int 0]) (M' := s_M0) rfl ?_
          refine s_ek_ret (o := some (.int 0)) (fun _ => rfl) ?_
          show s_Ek (s_rows 3 L xs) 1299 s_e204.1 7 [(0, .ref 151), (1, .int a), (2, .int b)] [.int 0] s_M0 _
          refine s_ek_bk 2 (P := 20) (ls' := [(0, .ref 151), (1, .int a), (2, .int b)]) (st' := [.int (-1)]) (M' := s_M0) rfl ?_
          refine s_ek_ret (o := some (.int (-1))) (fun _ => rfl) ?_
          exact rfl
        · replace h4 : ¬ (99 < a.toInt) := h4
          replace h4 : a.toInt ≤ 99 := by omega
          omega
    · replace h2 : ¬ (99 < a.toInt) := h2
      replace h2 : a.toInt ≤ 99 := by omega
      refine s_ek_bk 2 (P := 15) (ls' := [(0, .int a)]) (st' := [.int 1]) (M' := s_M0) rfl ?_
      refine s_ek_ret (o := some (.int 1)) (fun _ => rfl) ?_
      show s_Ek (s_rows 3 L xs) 1299 s_e135.1 4 [(0, .ref 0), (1, .int a), (2, .int b)] [.int 1] s_M0 _
      refine s_ek_bk 2 (P := 8) (ls' := [(0, .ref 0), (1, .int a), (2, .int b)]) (st' := [.int b]) (M' := s_M0) rfl ?_
      refine s_ek_call (ν := s_e170.1) (P := 11) (as := [.int b]) (r := []) (fun _ => rfl) rfl ?_
      show s_Ek (s_rows 3 L xs) 1298 s_e170.1 0 [(0, .int b)] [] s_M0 _
      refine s_ek_bk 1 (P := 1) (ls' := [(0, .int b)]) (st' := [.int b]) (M' := s_M0) rfl ?_
      refine s_ek_if1 (T := 13) rfl rfl (fun h3 => ?_) (fun h3 => ?_)
      · replace h3 : b.toInt < 0 := h3
        refine s_ek_bk 1 (P := 14) (ls' := [(0, .int b)]) (st' := [.int 0]) (M' := s_M0) rfl ?_
        refine s_ek_ret (o := some (.int 0)) (fun _ => rfl) ?_
        show s_Ek (s_rows 3 L xs) 1299 s_e135.1 11 [(0, .ref 0), (1, .int a), (2, .int b)] [.int 0] s_M0 _
        refine s_ek_bk 2 (P := 15) (ls' := [(0, .ref 0), (1, .int a), (2, .int b)]) (st' := [.int (-1)]) (M' := s_M0) rfl ?_
        refine s_ek_ret (o := some (.int (-1))) (fun _ => rfl) ?_
        refine ⟨(-1), rfl, ?_⟩
        show s_Ek (s_rows 3 L xs) 1299 s_e204.1 0 [(0, .ref 151), (1, .int a), (2, .int b)] [] s_M0 _
        refine s_ek_bk 3 (P := 4) (ls' := [(0, .ref 151), (1, .int a), (2, .int b)]) (st' := [.int 99, .int 0, .int a]) (M' := s_M0) rfl ?_
        refine s_ek_call (ν := s_e181.1) (P := 7) (as := [.int a, .int 0, .int 99]) (r := []) (fun _ => rfl) rfl ?_
        show s_Ek (s_rows 3 L xs) 1298 s_e181.1 0 [(0, .int a), (1, .int 0), (2, .int 99)] [] s_M0 _
        refine s_ek_bk 2 (P := 2) (ls' := [(0, .int a), (1, .int 0), (2, .int 99)]) (st' := [.int 0, .int a]) (M' := s_M0) rfl ?_
        refine s_ek_if2 (T := 14) rfl rfl (fun h4 => ?_) (fun h4 => ?_)
        · replace h4 : a.toInt < 0 := h4
          omega
        · replace h4 : ¬ (a.toInt < 0) := h4
          replace h4 : 0 ≤ a.toInt := by omega
          refine s_ek_bk 2 (P := 7) (ls' := [(0, .int a), (1, .int 0), (2, .int 99)]) (st' := [.int 99, .int a]) (M' := s_M0) rfl ?_
          refine s_ek_if2 (T := 14) rfl rfl (fun h5 => ?_) (fun h5 => ?_)
          · replace h5 : 99 < a.toInt := h5
            omega
          · replace h5 : ¬ (99 < a.toInt) := h5
            replace h5 : a.toInt ≤ 99 := by omega
            refine s_ek_bk 2 (P := 15) (ls' := [(0, .int a), (1, .int 0), (2, .int 99)]) (st' := [.int 1]) (M' := s_M0) rfl ?_
            refine s_ek_ret (o := some (.int 1)) (fun _ => rfl) ?_
            show s_Ek (s_rows 3 L xs) 1299 s_e204.1 7 [(0, .ref 151), (1, .int a), (2, .int b)] [.int 1] s_M0 _
            refine s_ek_bk 4 (P := 13) (ls' := [(0, .ref 151), (1, .int a), (2, .int b)]) (st' := [.int 2, .int 0, .int b]) (M' := s_M0) rfl ?_
            refine s_ek_call (ν := s_e181.1) (P := 16) (as := [.int b, .int 0, .int 2]) (r := []) (fun _ => rfl) rfl ?_
            show s_Ek (s_rows 3 L xs) 1298 s_e181.1 0 [(0, .int b), (1, .int 0), (2, .int 2)] [] s_M0 _
            refine s_ek_bk 2 (P := 2) (ls' := [(0, .int b), (1, .int 0), (2, .int 2)]) (st' := [.int 0, .int b]) (M' := s_M0) rfl ?_
            refine s_ek_if2 (T := 14) rfl rfl (fun h6 => ?_) (fun h6 => ?_)
            · replace h6 : b.toInt < 0 := h6
              refine s_ek_bk 1 (P := 15) (ls' := [(0, .int b), (1, .int 0), (2, .int 2)]) (st' := [.int 0]) (M' := s_M0) rfl ?_
              refine s_ek_ret (o := some (.int 0)) (fun _ => rfl) ?_
              show s_Ek (s_rows 3 L xs) 1299 s_e204.1 16 [(0, .ref 151), (1, .int a), (2, .int b)] [.int 0] s_M0 _
              refine s_ek_bk 2 (P := 20) (ls' := [(0, .ref 151), (1, .int a), (2, .int b)]) (st' := [.int (-1)]) (M' := s_M0) rfl ?_
              refine s_ek_ret (o := some (.int (-1))) (fun _ => rfl) ?_
              exact rfl
            · replace h6 : ¬ (b.toInt < 0) := h6
              replace h6 : 0 ≤ b.toInt := by omega
              omega
      · replace h3 : ¬ (b.toInt < 0) := h3
        replace h3 : 0 ≤ b.toInt := by omega
        refine s_ek_bk 2 (P := 6) (ls' := [(0, .int b)]) (st' := [.int 2, .int b]) (M' := s_M0) rfl ?_
        refine s_ek_if2 (T := 13) rfl rfl (fun h4 => ?_) (fun h4 => ?_)
        · replace h4 : 2 < b.toInt := h4
          refine s_ek_bk 1 (P := 14) (ls' := [(0, .int b)]) (st' := [.int 0]) (M' := s_M0) rfl ?_
          refine s_ek_ret (o := some (.int 0)) (fun _ => rfl) ?_
          show s_Ek (s_rows 3 L xs) 1299 s_e135.1 11 [(0, .ref 0), (1, .int a), (2, .int b)] [.int 0] s_M0 _
          refine s_ek_bk 2 (P := 15) (ls' := [(0, .ref 0), (1, .int a), (2, .int b)]) (st' := [.int (-1)]) (M' := s_M0) rfl ?_
          refine s_ek_ret (o := some (.int (-1))) (fun _ => rfl) ?_
          refine ⟨(-1), rfl, ?_⟩
          show s_Ek (s_rows 3 L xs) 1299 s_e204.1 0 [(0, .ref 151), (1, .int a), (2, .int b)] [] s_M0 _
          refine s_ek_bk 3 (P := 4) (ls' := [(0, .ref 151), (1, .int a), (2, .int b)]) (st' := [.int 99, .int 0, .int a]) (M' := s_M0) rfl ?_
          refine s_ek_call (ν := s_e181.1) (P := 7) (as := [.int a, .int 0, .int 99]) (r := []) (fun _ => rfl) rfl ?_
          show s_Ek (s_rows 3 L xs) 1298 s_e181.1 0 [(0, .int a), (1, .int 0), (2, .int 99)] [] s_M0 _
          refine s_ek_bk 2 (P := 2) (ls' := [(0, .int a), (1, .int 0), (2, .int 99)]) (st' := [.int 0, .int a]) (M' := s_M0) rfl ?_
          refine s_ek_if2 (T := 14) rfl rfl (fun h5 => ?_) (fun h5 => ?_)
          · replace h5 : a.toInt < 0 := h5
            omega
          · replace h5 : ¬ (a.toInt < 0) := h5
            replace h5 : 0 ≤ a.toInt := by omega
            refine s_ek_bk 2 (P := 7) (ls' := [(0, .int a), (1, .int 0), (2, .int 99)]) (st' := [.int 99, .int a]) (M' := s_M0) rfl ?_
            refine s_ek_if2 (T := 14) rfl rfl (fun h6 => ?_) (fun h6 => ?_)
            · replace h6 : 99 < a.toInt := h6
              omega
            · replace h6 : ¬ (99 < a.toInt) := h6
              replace h6 : a.toInt ≤ 99 := by omega
              refine s_ek_bk 2 (P := 15) (ls' := [(0, .int a), (1, .int 0), (2, .int 99)]) (st' := [.int 1]) (M' := s_M0) rfl ?_
              refine s_ek_ret (o := some (.int 1)) (fun _ => rfl) ?_
              show s_Ek (s_rows 3 L xs) 1299 s_e204.1 7 [(0, .ref 151), (1, .int a), (2, .int b)] [.int 1] s_M0 _
              refine s_ek_bk 4 (P := 13) (ls' := [(0, .ref 151), (1, .int a), (2, .int b)]) (st' := [.int 2, .int 0, .int b]) (M' := s_M0) rfl ?_
              refine s_ek_call (ν := s_e181.1) (P := 16) (as := [.int b, .int 0, .int 2]) (r := []) (fun _ => rfl) rfl ?_
              show s_Ek (s_rows 3 L xs) 1298 s_e181.1 0 [(0, .int b), (1, .int 0), (2, .int 2)] [] s_M0 _
              refine s_ek_bk 2 (P := 2) (ls' := [(0, .int b), (1, .int 0), (2, .int 2)]) (st' := [.int 0, .int b]) (M' := s_M0) rfl ?_
              refine s_ek_if2 (T := 14) rfl rfl (fun h7 => ?_) (fun h7 => ?_)
              · replace h7 : b.toInt < 0 := h7
                omega
              · replace h7 : ¬ (b.toInt < 0) := h7
                replace h7 : 0 ≤ b.toInt := by omega
                refine s_ek_bk 2 (P := 7) (ls' := [(0, .int b), (1, .int 0), (2, .int 2)]) (st' := [.int 2, .int b]) (M' := s_M0) rfl ?_
                refine s_ek_if2 (T := 14) rfl rfl (fun h8 => ?_) (fun h8 => ?_)
                · replace h8 : 2 < b.toInt := h8
                  refine s_ek_bk 1 (P := 15) (ls' := [(0, .int b), (1, .int 0), (2, .int 2)]) (st' := [.int 0]) (M' := s_M0) rfl ?_
                  refine s_ek_ret (o := some (.int 0)) (fun _ => rfl) ?_
                  show s_Ek (s_rows 3 L xs) 1299 s_e204.1 16 [(0, .ref 151), (1, .int a), (2, .int b)] [.int 0] s_M0 _
                  refine s_ek_bk 2 (P := 20) (ls' := [(0, .ref 151), (1, .int a), (2, .int b)]) (st' := [.int (-1)]) (M' := s_M0) rfl ?_
                  refine s_ek_ret (o := some (.int (-1))) (fun _ => rfl) ?_
                  exact rfl
                · replace h8 : ¬ (2 < b.toInt) := h8
                  replace h8 : b.toInt ≤ 2 := by omega
                  omega
        · replace h4 : ¬ (2 < b.toInt) := h4
          replace h4 : b.toInt ≤ 2 := by omega
          refine s_ek_bk 2 (P := 14) (ls' := [(0, .int b)]) (st' := [.int 1]) (M' := s_M0) rfl ?_
          refine s_ek_ret (o := some (.int 1)) (fun _ => rfl) ?_
          show s_Ek (s_rows 3 L xs) 1299 s_e135.1 11 [(0, .ref 0), (1, .int a), (2, .int b)] [.int 1] s_M0 _
          refine s_ek_bk 12 (P := 43) (ls' := [(0, .ref 0), (1, .int a), (2, .int b)]) (st' := [.int 0, .ref 1, .ref 3]) (M' := s_M0) rfl ?_
          refine s_ek_call (ν := s_e68.1) (P := 46) (as := [.ref 3, .ref 1, .int 0]) (r := []) (fun _ => rfl) rfl ?_
          refine s_ek_run s_El_rows s_cla_0 ?_
          show s_Ek (s_rows 3 L xs) 1299 s_e135.1 46 [(0, .ref 0), (1, .int a), (2, .int b)] [.int 0] s_M0 _
          refine s_ek_bk 4 (P := 52) (ls' := [(3, .int 0), (0, .ref 0), (1, .int a), (2, .int b)]) (st' := []) (M' := s_M0) rfl ?_
          refine s_ek_bk 6 (P := 61) (ls' := [(3, .int 0), (0, .ref 0), (1, .int a), (2, .int b)]) (st' := [.int (-100)]) (M' := s_M0) rfl ?_
          refine s_ek_ret (o := some (.int (-100))) (fun _ => rfl) ?_
          refine ⟨(-100), rfl, ?_⟩
          show s_Ek (s_rows 3 L xs) 1299 s_e204.1 0 [(0, .ref 151), (1, .int a), (2, .int b)] [] s_M0 _
          refine s_ek_bk 3 (P := 4) (ls' := [(0, .ref 151), (1, .int a), (2, .int b)]) (st' := [.int 99, .int 0, .int a]) (M' := s_M0) rfl ?_
          refine s_ek_call (ν := s_e181.1) (P := 7) (as := [.int a, .int 0, .int 99]) (r := []) (fun _ => rfl) rfl ?_
          show s_Ek (s_rows 3 L xs) 1298 s_e181.1 0 [(0, .int a), (1, .int 0), (2, .int 99)] [] s_M0 _
          refine s_ek_bk 2 (P := 2) (ls' := [(0, .int a), (1, .int 0), (2, .int 99)]) (st' := [.int 0, .int a]) (M' := s_M0) rfl ?_
          refine s_ek_if2 (T := 14) rfl rfl (fun h5 => ?_) (fun h5 => ?_)
          · replace h5 : a.toInt < 0 := h5
            omega
          · replace h5 : ¬ (a.toInt < 0) := h5
            replace h5 : 0 ≤ a.toInt := by omega
            refine s_ek_bk 2 (P := 7) (ls' := [(0, .int a), (1, .int 0), (2, .int 99)]) (st' := [.int 99, .int a]) (M' := s_M0) rfl ?_
            refine s_ek_if2 (T := 14) rfl rfl (fun h6 => ?_) (fun h6 => ?_)
            · replace h6 : 99 < a.toInt := h6
              omega
            · replace h6 : ¬ (99 < a.toInt) := h6
              replace h6 : a.toInt ≤ 99 := by omega
              refine s_ek_bk 2 (P := 15) (ls' := [(0, .int a), (1, .int 0), (2, .int 99)]) (st' := [.int 1]) (M' := s_M0) rfl ?_
              refine s_ek_ret (o := some (.int 1)) (fun _ => rfl) ?_
              show s_Ek (s_rows 3 L xs) 1299 s_e204.1 7 [(0, .ref 151), (1, .int a), (2, .int b)] [.int 1] s_M0 _
              refine s_ek_bk 4 (P := 13) (ls' := [(0, .ref 151), (1, .int a), (2, .int b)]) (st' := [.int 2, .int 0, .int b]) (M' := s_M0) rfl ?_
              refine s_ek_call (ν := s_e181.1) (P := 16) (as := [.int b, .int 0, .int 2]) (r := []) (fun _ => rfl) rfl ?_
              show s_Ek (s_rows 3 L xs) 1298 s_e181.1 0 [(0, .int b), (1, .int 0), (2, .int 2)] [] s_M0 _
              refine s_ek_bk 2 (P := 2) (ls' := [(0, .int b), (1, .int 0), (2, .int 2)]) (st' := [.int 0, .int b]) (M' := s_M0) rfl ?_
              refine s_ek_if2 (T := 14) rfl rfl (fun h7 => ?_) (fun h7 => ?_)
              · replace h7 : b.toInt < 0 := h7
                omega
              · replace h7 : ¬ (b.toInt < 0) := h7
                replace h7 : 0 ≤ b.toInt := by omega
                refine s_ek_bk 2 (P := 7) (ls' := [(0, .int b), (1, .int 0), (2, .int 2)]) (st' := [.int 2, .int b]) (M' := s_M0) rfl ?_
                refine s_ek_if2 (T := 14) rfl rfl (fun h8 => ?_) (fun h8 => ?_)
                · replace h8 : 2 < b.toInt := h8
                  omega
                · replace h8 : ¬ (2 < b.toInt) := h8
                  replace h8 : b.toInt ≤ 2 := by omega
                  refine s_ek_bk 2 (P := 15) (ls' := [(0, .int b), (1, .int 0), (2, .int 2)]) (st' := [.int 1]) (M' := s_M0) rfl ?_
                  refine s_ek_ret (o := some (.int 1)) (fun _ => rfl) ?_
                  show s_Ek (s_rows 3 L xs) 1299 s_e204.1 16 [(0, .ref 151), (1, .int a), (2, .int b)] [.int 1] s_M0 _
                  refine s_ek_bk 8 (P := 38) (ls' := [(0, .ref 151), (1, .int a), (2, .int b)]) (st' := [.int 0, .ref 151]) (M' := s_M0) rfl ?_
                  refine s_ek_call (ν := s_e197.1) (P := 41) (as := [.ref 151, .int 0]) (r := []) (fun _ => rfl) rfl ?_
                  refine s_ek_run s_El_rows s_cla_1 ?_
                  show s_Ek (s_rows 3 L xs) 1299 s_e204.1 41 [(0, .ref 151), (1, .int a), (2, .int b)] [.int 0] ((((s_M0.set 151 (11, ([Value.int 0, Value.ref 152, Value.int 0, Value.int 0, Value.int 0, Value.int 0, Value.int 1, Value.ref 153, Value.ref 154, Value.ref 155, Value.ref 156, Value.ref 157, Value.ref 158, Value.ref 159, Value.int 0, Value.ref 160, Value.ref 161, Value.ref 162, Value.int 0, Value.int 99, Value.ref 163, Value.ref 164, Value.ref 165, Value.int 0, Value.int 0, Value.ref 166, Value.ref 167, Value.ref 168, Value.ref 169, Value.ref 170, Value.int 0, Value.int 0, Value.ref 171, Value.ref 172, Value.ref 173, Value.int 0, Value.int 0, Value.ref 174, Value.ref 175, Value.ref 176, Value.ref 177, Value.ref 178, Value.int 0, Value.ref 179, Value.int 0, Value.ref 180, Value.ref 181, Value.ref 182, Value.ref 183, Value.ref 184] : List Value))).set 153 (12, ([Value.int 0, Value.int 0, Value.int 0, Value.int 0, Value.int 0, Value.int 0, Value.int 0, Value.int 0, Value.int 0, Value.int 0, Value.int 0, Value.int 0, Value.int 0, Value.int 0, Value.int 0, Value.int 0, Value.int 0, Value.int 0, Value.int 0, Value.int 0, Value.int 0, Value.int 0, Value.int 0, Value.int 0, Value.int 0, Value.int 0, Value.int 0, Value.int 0, Value.int 0, Value.int 0, Value.int 0, Value.int 0, Value.int 0, Value.int 0, Value.int 0, Value.int 0, Value.int 0, Value.int 0, Value.int 0, Value.int 0, Value.int 0, Value.int 0, Value.int 0, Value.int 0, Value.int 0, Value.int 0, Value.int 0, Value.int 0, Value.int 0, Value.int 0, Value.int 0, Value.int 0, Value.int 0, Value.int 0, Value.int 0, Value.int 0, Value.int 0, Value.int 0, Value.int 0, Value.int 0, Value.int 0, Value.int 0, Value.int 0, Value.int 0, Value.int 0, Value.int 0, Value.int 0, Value.int 0, Value.int 0, Value.int 0, Value.int 0, Value.int 0, Value.int 0, Value.int 0, Value.int 0, Value.int 0, Value.int 0, Value.int 0, Value.int 0, Value.int 0, Value.int 0, Value.int 0, Value.int 0, Value.int 0, Value.int 0, Value.int 0, Value.int 0, Value.int 0, Value.int 0, Value.int 0, Value.int 0, Value.int 0, Value.int 0, Value.int 0, Value.int 0, Value.int 0, Value.int 0, Value.int 0, Value.int 0, Value.int 0, Value.int 0, Value.int 0, Value.int 0, Value.int 0, Value.int 0, Value.int 0, Value.int 0, Value.int 0, Value.int 0, Value.int 0, Value.int 0, Value.int 0, Value.int 0, Value.int 0, Value.int 0, Value.int 0, Value.int 0, Value.int 0, Value.int 0, Value.int 0, Value.int 0, Value.int 0, Value.int 0, Value.int 0, Value.int 0, Value.int 0, Value.int 0, Value.int 0, Value.int 0, Value.int 0, Value.int 0, Value.int 0, Value.int 0, Value.int 0, Value.int 0, Value.int 0, Value.int 0, Value.int 0, Value.int 0, Value.int 0, Value.int 0, Value.int 0, Value.int 0, Value.int 0, Value.int 0, Value.int 0, Value.int 0, Value.int 0, Value.int 0, Value.int 0, Value.int 0, Value.int 0, Value.int 0, Value.int 0, Value.int 0, Value.int 0, Value.int 0, Value.int 0, Value.int 0, Value.int 0, Value.int 0, Value.int 0, Value.int 0, Value.int 0, Value.int 0, Value.int 0, Value.int 0, Value.int 0, Value.int 0, Value.int 0, Value.int 0, Value.int 0, Value.int 0, Value.int 0, Value.int 0, Value.int 0, Value.int 0, Value.int 0, Value.int 0, Value.int 0, Value.int 0, Value.int 0, Value.int 0, Value.int 0, Value.int 0, Value.int 0, Value.int 0, Value.int 0, Value.int 0, Value.int 0, Value.int 0, Value.int 0, Value.int 0, Value.int 0, Value.int 0, Value.int 0, Value.int 0, Value.int 0, Value.int 0, Value.int 0, Value.int 0, Value.int 0, Value.int 0, Value.int 0, Value.int 0, Value.int 0, Value.int 0, Value.int 0, Value.int 0, Value.int 0, Value.int 0, Value.int 0, Value.int 0, Value.int 0, Value.int 0, Value.int 0, Value.int 0, Value.int 0, Value.int 0, Value.int 0, Value.int 0, Value.int 0, Value.int 0, Value.int 0, Value.int 0, Value.int 0, Value.int 0, Value.int 0, Value.int 0, Value.int 0, Value.int 0, Value.int 0, Value.int 0, Value.int 0, Value.int 0, Value.int 0, Value.int 0, Value.int 0, Value.int 0, Value.int 0, Value.int 0, Value.int 0, Value.int 0, Value.int 0, Value.int 0, Value.int 0, Value.int 0, Value.int 0, Value.int 0, Value.int 0, Value.int 0, Value.int 0, Value.int 0, Value.int 0, Value.int 0, Value.int 0, Value.int 0, Value.int 0, Value.int 0, Value.int 0, Value.int 0, Value.int 0, Value.int 0, Value.int 0, Value.int 0, Value.int 0, Value.int 0, Value.int 0, Value.int 0, Value.int 0, Value.int 0, Value.int 0, Value.int 0, Value.int 0, Value.int 0, Value.int 0, Value.int 0, Value.int 0, Value.int 0, Value.int 0, Value.int 0, Value.int 0, Value.int 0, Value.int 0, Value.int 0, Value.int 0, Value.int 0, Value.int 0, Value.int 0, Value.int 0, Value.int 0, Value.int 0, Value.int 0, Value.int 0, Value.int 0, Value.int 0, Value.int 0, Value.int 0, Value.int 0, Value.int 0, Value.int 0, Value.int 0, Value.int 0, Value.int 0, Value.int 0, Value.int 0, Value.int 0, Value.int 0, Value.int 0, Value.int 0, Value.int 0, Value.int 0, Value.int 0, Value.int 0, Value.int 0, Value.int 0, Value.int 0, Value.int 0, Value.int 0, Value.int 0, Value.int 0, Value.int 0, Value.int 0, Value.int 0, Value.int 0, Value.int 0, Value.int 0, Value.int 0, Value.int 0, Value.int 0, Value.int 0, Value.int 0, Value.int 0, Value.int 0, Value.int 0, Value.int 0, Value.int 0, Value.int 0, Value.int 0, Value.int 0, Value.int 0, Value.int 0, Value.int 0, Value.int 0, Value.int 0, Value.int 0, Value.int 0, Value.int 0, Value.int 0, Value.int 0, Value.int 0, Value.int 0, Value.int 0, Value.int 0, Value.int 0, Value.int 0, Value.int 0, Value.int 0, Value.int 0, Value.int 0, Value.int 0, Value.int 0, Value.int 0, Value.int 0, Value.int 0, Value.int 0, Value.int 0, Value.int 0, Value.int 0, Value.int 0, Value.int 0, Value.int 0, Value.int 0, Value.int 0, Value.int 0, Value.int 0, Value.int 0, Value.int 0, Value.int 0, Value.int 0, Value.int 0, Value.int 0, Value.int 0, Value.int 0, Value.int 0, Value.int 0, Value.int 0, Value.int 0, Value.int 0, Value.int 0, Value.int 0, Value.int 0, Value.int 0, Value.int 0, Value.int 0, Value.int 0, Value.int 0, Value.int 0, Value.int 0, Value.int 0, Value.int 0, Value.int 0, Value.int 0, Value.int 0, Value.int 0, Value.int 0, Value.int 0, Value.int 0, Value.int 0, Value.int 0, Value.int 0, Value.int 0, Value.int 0, Value.int 0, Value.int 0, Value.int 0, Value.int 0, Value.int 0, Value.int 0, Value.int 0, Value.int 0, Value.int 0, Value.int 0, Value.int 0, Value.int 0, Value.int 0, Value.int 0, Value.int 0, Value.int 0, Value.int 0, Value.int 0, Value.int 0, Value.int 0, Value.int 0, Value.int 0, Value.int 0, Value.int 0, Value.int 0, Value.int 0, Value.int 0, Value.int 0, Value.int 0, Value.int 0, Value.int 0, Value.int 0, Value.int 0, Value.int 0, Value.int 0, Value.int 0, Value.int 0, Value.int 0, Value.int 0, Value.int 0, Value.int 0, Value.int 0, Value.int 0, Value.int 0, Value.int 0, Value.int 0, Value.int 0, Value.int 0, Value.int 0, Value.int 0, Value.int 0, Value.int 0, Value.int 0, Value.int 0, Value.int 0, Value.int 0, Value.int 0, Value.int 0, Value.int 0, Value.int 0, Value.int 0, Value.int 0, Value.int 0, Value.int 0, Value.int 0, Value.int 0, Value.int 0, Value.int 0, Value.int 0, Value.int 0, Value.int 0, Value.int 0, Value.int 0, Value.int 0, Value.int 0, Value.int 0, Value.int 0, Value.int 0, Value.int 0, Value.int 0, Value.int 0, Value.int 0, Value.int 0, Value.int 0, Value.int 0, Value.int 0, Value.int 0, Value.int 0, Value.int 0, Value.int 0, Value.int 0, Value.int 0, Value.int 0, Value.int 0, Value.int 0, Value.int 0, Value.int 0, Value.int 0, Value.int 0, Value.int 0, Value.int 0, Value.int 0, Value.int 0, Value.int 0, Value.int 0, Value.int 0, Value.int 0, Value.int 0, Value.int 0, Value.int 0, Value.int 0, Value.int 0, Value.int 0, Value.int 0, Value.int 0, Value.int 0, Value.int 0, Value.int 0, Value.int 0, Value.int 0, Value.int 0, Value.int 0, Value.int 0, Value.int 0, Value.int 0, Value.int 0, Value.int 0, Value.int 0, Value.int 0, Value.int 0, Value.int 0, Value.int 0, Value.int 0, Value.int 0, Value.int 0, Value.int 0, Value.int 0, Value.int 0, Value.int 0, Value.int 0, Value.int 0, Value.int 0, Value.int 0, Value.int 0, Value.int 0, Value.int 0, Value.int 0, Value.int 0, Value.int 0, Value.int 0, Value.int 0, Value.int 0, Value.int 0, Value.int 0, Value.int 0, Value.int 0, Value.int 0, Value.int 0, Value.int 0, Value.int 0, Value.int 0, Value.int 0, Value.int 0, Value.int 0, Value.int 0, Value.int 0, Value.int 0, Value.int 0, Value.int 0, Value.int 0, Value.int 0, Value.int 0, Value.int 0, Value.int 0, Value.int 0, Value.int 0, Value.int 0, Value.int 0, Value.int 0, Value.int 0, Value.int 0, Value.int 0, Value.int 0, Value.int 0, Value.int 0, Value.int 0, Value.int 0, Value.int 0, Value.int 0, Value.int 0, Value.int 0, Value.int 0, Value.int 0, Value.int 0, Value.int 0, Value.int 0, Value.int 0, Value.int 0, Value.int 0, Value.int 0, Value.int 0, Value.int 0, Value.int 0, Value.int 0, Value.int 0, Value.int 0, Value.int 0, Value.int 0, Value.int 0, Value.int 0, Value.int 0, Value.int 0, Value.int 0, Value.int 0, Value.int 0, Value.int 0, Value.int 0, Value.int 0, Value.int 0, Value.int 0, Value.int 0, Value.int 0, Value.int 0, Value.int 0, Value.int 0, Value.int 0, Value.int 0, Value.int 0, Value.int 0, Value.int 0, Value.int 0, Value.int 0, Value.int 0, Value.int 0, Value.int 0, Value.int 0, Value.int 0, Value.int 0, Value.int 0, Value.int 0, Value.int 0, Value.int 0, Value.int 0, Value.int 0, Value.int 0, Value.int 0, Value.int 0, Value.int 0, Value.int 0, Value.int 0, Value.int 0, Value.int 0, Value.int 0, Value.int 0, Value.int 0, Value.int 0, Value.int 0, Value.int 0, Value.int 0, Value.int 0, Value.int 0, Value.int 0, Value.int 0, Value.int 0, Value.int 0, Value.int 0, Value.int 0, Value.int 0, Value.int 0, Value.int 0, Value.int 0, Value.int 0, Value.int 0, Value.int 0, Value.int 0, Value.int 0, Value.int 0, Value.int 0, Value.int 0, Value.int 0, Value.int 0, Value.int 0, Value.int 0, Value.int 0, Value.int 0, Value.int 0, Value.int 0, Value.int 0, Value.int 0, Value.int 0, Value.int 0, Value.int 0, Value.int 0, Value.int 0, Value.int 0, Value.int 0, Value.int 0, Value.int 0, Value.int 0, Value.int 0, Value.int 0, Value.int 0, Value.int 0, Value.int 0, Value.int 0, Value.int 0, Value.int 0, Value.int 0, Value.int 0, Value.int 0, Value.int 0, Value.int 0, Value.int 0, Value.int 0, Value.int 0, Value.int 0, Value.int 0, Value.int 0, Value.int 0, Value.int 0, Value.int 0, Value.int 0, Value.int 0, Value.int 0, Value.int 0, Value.int 0, Value.int 0, Value.int 0, Value.int 0, Value.int 0, Value.int 0, Value.int 0, Value.int 0, Value.int 0, Value.int 0, Value.int 0, Value.int 0, Value.int 0, Value.int 0, Value.int 0, Value.int 0, Value.int 0, Value.int 0, Value.int 0, Value.int 0, Value.int 0, Value.int 0, Value.int 0, Value.int 0, Value.int 0, Value.int 0, Value.int 0, Value.int 0, Value.int 0, Value.int 0, Value.int 0, Value.int 0, Value.int 0, Value.int 0, Value.int 0, Value.int 0, Value.int 0, Value.int 0, Value.int 0, Value.int 0, Value.int 0, Value.int 0, Value.int 0, Value.int 0, Value.int 0, Value.int 0, Value.int 0, Value.int 0, Value.int 0, Value.int 0, Value.int 0, Value.int 0, Value.int 0, Value.int 0, Value.int 0, Value.int 0, Value.int 0, Value.int 0, Value.int 0, Value.int 0, Value.int 0, Value.int 0, Value.int 0, Value.int 0, Value.int 0, Value.int 0, Value.int 0, Value.int 0, Value.int 0, Value.int 0, Value.int 0, Value.int 0, Value.int 0, Value.int 0, Value.int 0, Value.int 0, Value.int 0, Value.int 0, Value.int 0, Value.int 0, Value.int 0, Value.int 0, Value.int 0, Value.int 0, Value.int 0, Value.int 0, Value.int 0, Value.int 0, Value.int 0, Value.int 0, Value.int 0, Value.int 0, Value.int 0, Value.int 0, Value.int 0, Value.int 0, Value.int 0, Value.int 0, Value.int 0, Value.int 0, Value.int 0, Value.int 0, Value.int 0, Value.int 0, Value.int 0, Value.int 0, Value.int 0, Value.int 0, Value.int 0, Value.int 0, Value.int 0, Value.int 0, Value.int 0, Value.int 0, Value.int 0, Value.int 0, Value.int 0, Value.int 0, Value.int 0, Value.int 0, Value.int 0, Value.int 0, Value.int 0, Value.int 0, Value.int 0, Value.int 0, Value.int 0, Value.int 0, Value.int 0, Value.int 0, Value.int 0, Value.int 0, Value.int 0, Value.int 0, Value.int 0, Value.int 0, Value.int 0, Value.int 0, Value.int 0, Value.int 0, Value.int 0, Value.int 0, Value.int 0, Value.int 0, Value.int 0, Value.int 0, Value.int 0, Value.int 0, Value.int 0, Value.int 0, Value.int 0, Value.int 0, Value.int 0, Value.int 0, Value.int 0, Value.int 0, Value.int 0, Value.int 0, Value.int 0, Value.int 0, Value.int 0, Value.int 0, Value.int 0, Value.int 0, Value.int 0, Value.int 0, Value.int 0, Value.int 0, Value.int 0, Value.int 0, Value.int 0, Value.int 0, Value.int 0, Value.int 0, Value.int 0, Value.int 0, Value.int 0, Value.int 0, Value.int 0, Value.int 0, Value.int 0, Value.int 0, Value.int 0, Value.int 0, Value.int 0, Value.int 0, Value.int 0, Value.int 0, Value.int 0, Value.int 0, Value.int 0, Value.int 0, Value.int 0, Value.int 0, Value.int 0, Value.int 0, Value.int 0, Value.int 0, Value.int 0, Value.int 0, Value.int 0, Value.int 0, Value.int 0, Value.int 0, Value.int 0, Value.int 0, Value.int 0, Value.int 0, Value.int 0, Value.int 0, Value.int 0, Value.int 0, Value.int 0, Value.int 0, Value.int 0, Value.int 0, Value.int 0, Value.int 0, Value.int 0, Value.int 0, Value.int 0, Value.int 0, Value.int 0, Value.int 0, Value.int 0, Value.int 0, Value.int 0, Value.int 0, Value.int 0, Value.int 0, Value.int 0, Value.int 0, Value.int 0, Value.int 0, Value.int 0, Value.int 0, Value.int 0, Value.int 0, Value.int 0, Value.int 0, Value.int 0, Value.int 0, Value.int 0, Value.int 0, Value.int 0, Value.int 0, Value.int 0, Value.int 0, Value.int 0, Value.int 0, Value.int 0, Value.int 0, Value.int 0, Value.int 0, Value.int 0, Value.int 0, Value.int 0, Value.int 0, Value.int 0, Value.int 0, Value.int 0, Value.int 0, Value.int 0, Value.int 0, Value.int 0, Value.int 0, Value.int 0, Value.int 0, Value.int 0, Value.int 0, Value.int 0, Value.int 0, Value.int 0, Value.int 0, Value.int 0, Value.int 0, Value.int 0, Value.int 0, Value.int 0, Value.int 0, Value.int 0, Value.int 0, Value.int 0, Value.int 0, Value.int 0, Value.int 0, Value.int 0, Value.int 0, Value.int 0, Value.int 0, Value.int 0, Value.int 0, Value.int 0, Value.int 0, Value.int 0, Value.int 0, Value.int 0, Value.int 0, Value.int 0, Value.int 0, Value.int 0, Value.int 0, Value.int 0, Value.int 0, Value.int 0, Value.int 0, Value.int 0, Value.int 0, Value.int 0, Value.int 0, Value.int 0, Value.int 0, Value.int 0, Value.int 0, Value.int 0, Value.int 0, Value.int 0, Value.int 0, Value.int 0, Value.int 0, Value.int 0, Value.int 0, Value.int 0, Value.int 0, Value.int 0, Value.int 0, Value.int 0, Value.int 0, Value.int 0, Value.int 0, Value.int 0, Value.int 0, Value.int 0, Value.int 0, Value.int 0, Value.int 0, Value.int 0, Value.int 0, Value.int 0, Value.int 0, Value.int 0, Value.int 0, Value.int 0, Value.int 0, Value.int 0, Value.int 0, Value.int 0, Value.int 0, Value.int 0, Value.int 0, Value.int 0, Value.int 0, Value.int 0, Value.int 0, Value.int 0, Value.int 0, Value.int 0, Value.int 0, Value.int 0, Value.int 0, Value.int 0, Value.int 0, Value.int 0, Value.int 0, Value.int 0, Value.int 0, Value.int 0, Value.int 0, Value.int 0, Value.int 0, Value.int 0, Value.int 0, Value.int 0, Value.int 0, Value.int 0, Value.int 0, Value.int 0, Value.int 0, Value.int 0, Value.int 0, Value.int 0, Value.int 0, Value.int 0, Value.int 0, Value.int 0, Value.int 0, Value.int 0, Value.int 0, Value.int 0, Value.int 0, Value.int 0, Value.int 0, Value.int 0, Value.int 0, Value.int 0, Value.int 0, Value.int 0, Value.int 0, Value.int 0, Value.int 0, Value.int 0, Value.int 0, Value.int 0, Value.int 0, Value.int 0, Value.int 0, Value.int 0, Value.int 0, Value.int 0, Value.int 0, Value.int 0, Value.int 0, Value.int 0, Value.int 0, Value.int 0, Value.int 0, Value.int 0, Value.int 0, Value.int 0, Value.int 0, Value.int 0, Value.int 0, Value.int 0, Value.int 0, Value.int 0, Value.int 0, Value.int 0, Value.int 0, Value.int 0, Value.int 0, Value.int 0, Value.int 0, Value.int 0, Value.int 0, Value.int 0, Value.int 0, Value.int 0, Value.int 0, Value.int 0, Value.int 0, Value.int 0, Value.int 0, Value.int 0, Value.int 0, Value.int 0, Value.int 0, Value.int 0, Value.int 0, Value.int 0, Value.int 0, Value.int 0, Value.int 0, Value.int 0, Value.int 0, Value.int 0, Value.int 0, Value.int 0, Value.int 0, Value.int 0, Value.int 0, Value.int 0, Value.int 0, Value.int 0, Value.int 0, Value.int 0, Value.int 0, Value.int 0, Value.int 0, Value.int 0, Value.int 0, Value.int 0, Value.int 0, Value.int 0, Value.int 0, Value.int 0, Value.int 0, Value.int 0, Value.int 0, Value.int 0, Value.int 0, Value.int 0, Value.int 0, Value.int 0, Value.int 0, Value.int 0, Value.int 0, Value.int 0, Value.int 0, Value.int 0, Value.int 0, Value.int 0, Value.int 0, Value.int 0, Value.int 0, Value.int 0, Value.int 0, Value.int 0, Value.int 0, Value.int 0, Value.int 0, Value.int 0, Value.int 0, Value.int 0, Value.int 0, Value.int 0, Value.int 0, Value.int 0, Value.int 0, Value.int 0, Value.int 0, Value.int 0, Value.int 0, Value.int 0, Value.int 0, Value.int 0, Value.int 0, Value.int 0, Value.int 0, Value.int 0, Value.int 0, Value.int 0, Value.int 0, Value.int 0, Value.int 0, Value.int 0, Value.int 0, Value.int 0, Value.int 0, Value.int 0, Value.int 0, Value.int 0, Value.int 0, Value.int 0, Value.int 0, Value.int 0, Value.int 0, Value.int 0, Value.int 0, Value.int 0, Value.int 0, Value.int 0, Value.int 0, Value.int 0, Value.int 0, Value.int 0, Value.int 0, Value.int 0, Value.int 0, Value.int 0, Value.int 0, Value.int 0, Value.int 0, Value.int 0, Value.int 0, Value.int 0, Value.int 0, Value.int 0, Value.int 0, Value.int 0, Value.int 0, Value.int 0, Value.int 0, Value.int 1, Value.int 0, Value.int 0, Value.int 0, Value.int 0, Value.int 0, Value.int 0, Value.int 0, Value.int 0, Value.int 0, Value.int 0, Value.int 0, Value.int 0, Value.int 0, Value.int 0, Value.int 0, Value.int 0, Value.int 0, Value.int 0, Value.int 0, Value.int 0, Value.int 0, Value.int 0, Value.int 0, Value.int 0, Value.int 0, Value.int 0, Value.int 0, Value.int 0, Value.int 0, Value.int 0, Value.int 0, Value.int 0, Value.int 0, Value.int 0, Value.int 0, Value.int 0, Value.int 0, Value.int 0, Value.int 0, Value.int 0, Value.int 0, Value.int 0, Value.int 0, Value.int 0, Value.int 0, Value.int 0, Value.int 0, Value.int 0, Value.int 0, Value.int 0, Value.int 0, Value.int 0, Value.int 0, Value.int 0, Value.int 0, Value.int 0, Value.int 0, Value.int 0, Value.int 0, Value.int 0, Value.int 0, Value.int 0, Value.int 0, Value.int 0, Value.int 0, Value.int 0, Value.int 0, Value.int 0, Value.int 0, Value.int 0, Value.int 0, Value.int 0, Value.int 0, Value.int 0, Value.int 0, Value.int 0, Value.int 0, Value.int 0, Value.int 0, Value.int 0, Value.int 0, Value.int 0, Value.int 0, Value.int 0, Value.int 0, Value.int 0, Value.int 0, Value.int 0, Value.int 0, Value.int 0, Value.int 0, Value.int 0, Value.int 0, Value.int 0, Value.int 0, Value.int 0, Value.int 0, Value.int 0, Value.int 0, Value.int 0, Value.int 0, Value.int 0, Value.int 0, Value.int 0, Value.int 0, Value.int 0, Value.int 0, Value.int 0, Value.int 0, Value.int 0, Value.int 0, Value.int 0, Value.int 0, Value.int 0, Value.int 0, Value.int 0, Value.int 0, Value.int 0, Value.int 0, Value.int 0, Value.int 0, Value.int 0, Value.int 0, Value.int 0, Value.int 0, Value.int 0, Value.int 0, Value.int 0, Value.int 0] : List Value))).set 155 (13, ([Value.int 0, Value.int 0, Value.int 0, Value.int 0, Value.int 0, Value.int 0, Value.int 0, Value.int 0, Value.int 0, Value.int 0, Value.int 1] : List Value))).set 157 (15, ([Value.int 0, Value.int 0, Value.int 0, Value.int 0, Value.int 0, Value.int 0, Value.int 0, Value.int 0, Value.int 0, Value.int 0, Value.int 0, Value.int 0, Value.int 0, Value.int 0, Value.int 0, Value.int 0, Value.int 0, Value.int 0, Value.int 0, Value.int 0, Value.int 0, Value.int 0, Value.int 0, Value.int 0, Value.int 0, Value.int 0, Value.int 0, Value.int 0, Value.int 0, Value.int 0, Value.int 0, Value.int 0, Value.int 0, Value.int 0, Value.int 0, Value.int 0, Value.int 0, Value.int 0, Value.int 0, Value.int 0, Value.int 0, Value.int 0, Value.int 0, Value.int 0, Value.int 0, Value.int 0, Value.int 0, Value.int 0, Value.int 0, Value.int 0, Value.int 0, Value.int 0, Value.int 0, Value.int 0, Value.int 0, Value.int 0, Value.int 0, Value.int 0, Value.int 0, Value.int 0, Value.int 0, Value.int 0, Value.int 0, Value.int 0, Value.int 0, Value.int 0, Value.int 0, Value.int 0, Value.int 0, Value.int 0, Value.int 0, Value.int 0, Value.int 0, Value.int 0, Value.int 0, Value.int 0, Value.int 0, Value.int 0, Value.int 0, Value.int 0, Value.int 0, Value.int 0, Value.int 0, Value.int 0, Value.int 0, Value.int 0, Value.int 0, Value.int 0, Value.int 0, Value.int 0, Value.int 0, Value.int 0, Value.int 0, Value.int 0, Value.int 0, Value.int 0, Value.int 0, Value.int 0, Value.int 0, Value.int 0, Value.int 0, Value.int 0, Value.int 0, Value.int 0, Value.int 0, Value.int 0, Value.int 0, Value.int 0, Value.int 0, Value.int 0, Value.int 0, Value.int 0, Value.int 0, Value.int 0, Value.int 0, Value.int 0, Value.int 0, Value.int 0, Value.int 0, Value.int 0, Value.int 0, Value.int 0, Value.int 0, Value.int 0, Value.int 0, Value.int 0, Value.int 0, Value.int 0, Value.int 0, Value.int 0, Value.int 0, Value.int 0, Value.int 0, Value.int 0, Value.int 0, Value.int 0, Value.int 0, Value.int 0, Value.int 0, Value.int 0, Value.int 0, Value.int 0, Value.int 0, Value.int 0, Value.int 0, Value.int 0, Value.int 0, Value.int 0, Value.int 0, Value.int 0, Value.int 0, Value.int 0, Value.int 0, Value.int 0, Value.int 0, Value.int 0, Value.int 0, Value.int 0, Value.int 0, Value.int 0, Value.int 0, Value.int 0, Value.int 0, Value.int 0, Value.int 0, Value.int 0, Value.int 0, Value.int 0, Value.int 0, Value.int 0, Value.int 0, Value.int 0, Value.int 0, Value.int 0, Value.int 0, Value.int 0, Value.int 0, Value.int 0, Value.int 0, Value.int 0, Value.int 0, Value.int 0, Value.int 0, Value.int 0, Value.int 0, Value.int 0, Value.int 0, Value.int 0, Value.int 0, Value.int 0, Value.int 0, Value.int 0, Value.int 0, Value.int 0, Value.int 0, Value.int 0, Value.int 0, Value.int 0, Value.int 0, Value.int 0, Value.int 0, Value.int 0, Value.int 0, Value.int 0, Value.int 0, Value.int 0, Value.int 0, Value.int 0, Value.int 0, Value.int 0, Value.int 0, Value.int 0, Value.int 0, Value.int 0, Value.int 0, Value.int 0, Value.int 0, Value.int 0, Value.int 0, Value.int 0, Value.int 0, Value.int 0, Value.int 0, Value.int 0, Value.int 0, Value.int 0, Value.int 0, Value.int 0, Value.int 0, Value.int 0, Value.int 0, Value.int 0, Value.int 0, Value.int 0, Value.int 0, Value.int 0, Value.int 0, Value.int 0, Value.int 0, Value.int 0, Value.int 0, Value.int 0, Value.int 0, Value.int 0, Value.int 0, Value.int 0, Value.int 0, Value.int 0, Value.int 0, Value.int 0, Value.int 0, Value.int 0, Value.int 0, Value.int 0, Value.int 0, Value.int 0, Value.int 0, Value.int 0, Value.int 0, Value.int 0, Value.int 0, Value.int 0, Value.int 0, Value.int 0, Value.int 0, Value.int 0, Value.int 0, Value.int 0, Value.int 0, Value.int 0, Value.int 0, Value.int 0, Value.int 0, Value.int 0, Value.int 0, Value.int 0, Value.int 0, Value.int 0, Value.int 0, Value.int 0, Value.int 0, Value.int 0, Value.int 0, Value.int 0, Value.int 0, Value.int 0, Value.int 0, Value.int 0, Value.int 0, Value.int 0, Value.int 0, Value.int 0, Value.int 0, Value.int 0, Value.int 0, Value.int 0, Value.int 0, Value.int 0, Value.int 0, Value.int 0, Value.int 0, Value.int 0, Value.int 0, Value.int 0, Value.int 0, Value.int 0, Value.int 0, Value.int 0, Value.int 0, Value.int 0, Value.int 0, Value.int 0, Value.int 0, Value.int 0, Value.int 0, Value.int 0, Value.int 0, Value.int 0, Value.int 0, Value.int 0, Value.int 0, Value.int 0, Value.int 0, Value.int 0, Value.int 0, Value.int 0, Value.int 0, Value.int 0, Value.int 0, Value.int 0, Value.int 0, Value.int 0, Value.int 0, Value.int 0, Value.int 0, Value.int 0, Value.int 0, Value.int 0, Value.int 0, Value.int 0, Value.int 0, Value.int 0, Value.int 0, Value.int 0, Value.int 0, Value.int 0, Value.int 0, Value.int 0, Value.int 0, Value.int 0, Value.int 0, Value.int 0, Value.int 0, Value.int 0, Value.int 0, Value.int 0, Value.int 0, Value.int 0, Value.int 0, Value.int 0, Value.int 0, Value.int 0, Value.int 0, Value.int 0, Value.int 0, Value.int 0, Value.int 0, Value.int 0, Value.int 0, Value.int 0, Value.int 0, Value.int 0, Value.int 0, Value.int 0, Value.int 0, Value.int 0, Value.int 0, Value.int 0, Value.int 0, Value.int 0, Value.int 0, Value.int 0, Value.int 0, Value.int 0, Value.int 0, Value.int 0, Value.int 0, Value.int 0, Value.int 0, Value.int 0, Value.int 0, Value.int 0, Value.int 0, Value.int 0, Value.int 0, Value.int 0, Value.int 0, Value.int 0, Value.int 0, Value.int 0, Value.int 0, Value.int 0, Value.int 0, Value.int 0, Value.int 0, Value.int 0, Value.int 0, Value.int 0, Value.int 0, Value.int 0, Value.int 0, Value.int 0, Value.int 0, Value.int 0, Value.int 0, Value.int 0, Value.int 0, Value.int 0, Value.int 0, Value.int 0, Value.int 0, Value.int 0, Value.int 0, Value.int 0, Value.int 0, Value.int 0, Value.int 0, Value.int 0, Value.int 0, Value.int 0, Value.int 0, Value.int 0, Value.int 0, Value.int 0, Value.int 0, Value.int 0, Value.int 0, Value.int 0, Value.int 0, Value.int 0, Value.int 0, Value.int 0, Value.int 0, Value.int 0, Value.int 0, Value.int 0, Value.int 0, Value.int 0, Value.int 0, Value.int 0, Value.int 0, Value.int 0, Value.int 0, Value.int 0, Value.int 0, Value.int 0, Value.int 0, Value.int 0, Value.int 0, Value.int 0, Value.int 0, Value.int 0, Value.int 0, Value.int 0, Value.int 0, Value.int 0, Value.int 0, Value.int 0, Value.int 0, Value.int 0, Value.int 0, Value.int 0, Value.int 0, Value.int 0, Value.int 0, Value.int 0, Value.int 0, Value.int 0, Value.int 0, Value.int 0, Value.int 0, Value.int 0, Value.int 0, Value.int 0, Value.int 0, Value.int 0, Value.int 0, Value.int 0, Value.int 0, Value.int 0, Value.int 0, Value.int 0, Value.int 0, Value.int 0, Value.int 0, Value.int 0, Value.int 0, Value.int 0, Value.int 0, Value.int 0, Value.int 0, Value.int 0, Value.int 0, Value.int 0, Value.int 0, Value.int 0, Value.int 0, Value.int 0, Value.int 0, Value.int 0, Value.int 0, Value.int 0, Value.int 0, Value.int 0, Value.int 0, Value.int 0, Value.int 0, Value.int 0, Value.int 0, Value.int 0, Value.int 0, Value.int 0, Value.int 0, Value.int 0, Value.int 0, Value.int 0, Value.int 0, Value.int 0, Value.int 0, Value.int 0, Value.int 0, Value.int 0, Value.int 0, Value.int 0, Value.int 0, Value.int 0, Value.int 0, Value.int 0, Value.int 0, Value.int 0, Value.int 0, Value.int 0, Value.int 0, Value.int 0, Value.int 0, Value.int 0, Value.int 0, Value.int 0, Value.int 0, Value.int 0, Value.int 0, Value.int 0, Value.int 0, Value.int 0, Value.int 0, Value.int 0, Value.int 0, Value.int 0, Value.int 0, Value.int 0, Value.int 0, Value.int 0, Value.int 0, Value.int 0, Value.int 0, Value.int 0, Value.int 0, Value.int 0, Value.int 0, Value.int 0, Value.int 0, Value.int 0, Value.int 0, Value.int 0, Value.int 0, Value.int 0, Value.int 0, Value.int 0, Value.int 0, Value.int 0, Value.int 0, Value.int 0, Value.int 0, Value.int 0, Value.int 0, Value.int 0, Value.int 0, Value.int 0, Value.int 0, Value.int 0, Value.int 0, Value.int 0, Value.int 0, Value.int 0, Value.int 0, Value.int 0, Value.int 0, Value.int 0, Value.int 0, Value.int 0, Value.int 0, Value.int 0, Value.int 0, Value.int 0, Value.int 0, Value.int 0, Value.int 0, Value.int 0, Value.int 0, Value.int 0, Value.int 1, Value.int 0, Value.int 0, Value.int 0, Value.int 0, Value.int 0, Value.int 0, Value.int 0, Value.int 0, Value.int 0, Value.int 0, Value.int 0, Value.int 0, Value.int 0, Value.int 0, Value.int 0, Value.int 0, Value.int 0, Value.int 0, Value.int 0, Value.int 0, Value.int 0, Value.int 0, Value.int 0, Value.int 0, Value.int 0, Value.int 0, Value.int 0, Value.int 0, Value.int 0, Value.int 0, Value.int 0, Value.int 0, Value.int 0, Value.int 0, Value.int 0, Value.int 0, Value.int 0, Value.int 0, Value.int 0, Value.int 0, Value.int 0, Value.int 0, Value.int 0, Value.int 0, Value.int 0, Value.int 0, Value.int 0, Value.int 0, Value.int 0, Value.int 0, Value.int 0, Value.int 0, Value.int 0, Value.int 0, Value.int 0, Value.int 0, Value.int 0, Value.int 0, Value.int 0, Value.int 0] : List Value))) _
                  refine s_ek_bk 7 (P := 60) (ls' := [(3, .int 0), (0, .ref 151), (1, .int a), (2, .int b)]) (st' := [.int (-100)]) (M' := ((((s_M0.set 151 (11, ([Value.int 0, Value.ref 152, Value.int 0, Value.int 0, Value.int 0, Value.int 0, Value.int 1, Value.ref 153, Value.ref 154, Value.ref 155, Value.ref 156, Value.ref 157, Value.ref 158, Value.ref 159, Value.int 0, Value.ref 160, Value.ref 161, Value.ref 162, Value.int 0, Value.int 99, Value.ref 163, Value.ref 164, Value.ref 165, Value.int 0, Value.int 0, Value.ref 166, Value.ref 167, Value.ref 168, Value.ref 169, Value.ref 170, Value.int 0, Value.int 0, Value.ref 171, Value.ref 172, Value.ref 173, Value.int 0, Value.int 0, Value.ref 174, Value.ref 175, Value.ref 176, Value.ref 177, Value.ref 178, Value.int 0, Value.ref 179, Value.int 0, Value.ref 180, Value.ref 181, Value.ref 182, Value.ref 183, Value.ref 184] : List Value))).set 153 (12, ([Value.int 0, Value.int 0, Value.int 0, Value.int 0, Value.int 0, Value.int 0, Value.int 0, Value.int 0, Value.int 0, Value.int 0, Value.int 0, Value.int 0, Value.int 0, Value.int 0, Value.int 0, Value.int 0, Value.int 0, Value.int 0, Value.int 0, Value.int 0, Value.int 0, Value.int 0, Value.int 0, Value.int 0, Value.int 0, Value.int 0, Value.int 0, Value.int 0, Value.int 0, Value.int 0, Value.int 0, Value.int 0, Value.int 0, Value.int 0, Value.int 0, Value.int 0, Value.int 0, Value.int 0, Value.int 0, Value.int 0, Value.int 0, Value.int 0, Value.int 0, Value.int 0, Value.int 0, Value.int 0, Value.int 0, Value.int 0, Value.int 0, Value.int 0, Value.int 0, Value.int 0, Value.int 0, Value.int 0, Value.int 0, Value.int 0, Value.int 0, Value.int 0, Value.int 0, Value.int 0, Value.int 0, Value.int 0, Value.int 0, Value.int 0, Value.int 0, Value.int 0, Value.int 0, Value.int 0, Value.int 0, Value.int 0, Value.int 0, Value.int 0, Value.int 0, Value.int 0, Value.int 0, Value.int 0, Value.int 0, Value.int 0, Value.int 0, Value.int 0, Value.int 0, Value.int 0, Value.int 0, Value.int 0, Value.int 0, Value.int 0, Value.int 0, Value.int 0, Value.int 0, Value.int 0, Value.int 0, Value.int 0, Value.int 0, Value.int 0, Value.int 0, Value.int 0, Value.int 0, Value.int 0, Value.int 0, Value.int 0, Value.int 0, Value.int 0, Value.int 0, Value.int 0, Value.int 0, Value.int 0, Value.int 0, Value.int 0, Value.int 0, Value.int 0, Value.int 0, Value.int 0, Value.int 0, Value.int 0, Value.int 0, Value.int 0, Value.int 0, Value.int 0, Value.int 0, Value.int 0, Value.int 0, Value.int 0, Value.int 0, Value.int 0, Value.int 0, Value.int 0, Value.int 0, Value.int 0, Value.int 0, Value.int 0, Value.int 0, Value.int 0, Value.int 0, Value.int 0, Value.int 0, Value.int 0, Value.int 0, Value.int 0, Value.int 0, Value.int 0, Value.int 0, Value.int 0, Value.int 0, Value.int 0, Value.int 0, Value.int 0, Value.int 0, Value.int 0, Value.int 0, Value.int 0, Value.int 0, Value.int 0, Value.int 0, Value.int 0, Value.int 0, Value.int 0, Value.int 0, Value.int 0, Value.int 0, Value.int 0, Value.int 0, Value.int 0, Value.int 0, Value.int 0, Value.int 0, Value.int 0, Value.int 0, Value.int 0, Value.int 0, Value.int 0, Value.int 0, Value.int 0, Value.int 0, Value.int 0, Value.int 0, Value.int 0, Value.int 0, Value.int 0, Value.int 0, Value.int 0, Value.int 0, Value.int 0, Value.int 0, Value.int 0, Value.int 0, Value.int 0, Value.int 0, Value.int 0, Value.int 0, Value.int 0, Value.int 0, Value.int 0, Value.int 0, Value.int 0, Value.int 0, Value.int 0, Value.int 0, Value.int 0, Value.int 0, Value.int 0, Value.int 0, Value.int 0, Value.int 0, Value.int 0, Value.int 0, Value.int 0, Value.int 0, Value.int 0, Value.int 0, Value.int 0, Value.int 0, Value.int 0, Value.int 0, Value.int 0, Value.int 0, Value.int 0, Value.int 0, Value.int 0, Value.int 0, Value.int 0, Value.int 0, Value.int 0, Value.int 0, Value.int 0, Value.int 0, Value.int 0, Value.int 0, Value.int 0, Value.int 0, Value.int 0, Value.int 0, Value.int 0, Value.int 0, Value.int 0, Value.int 0, Value.int 0, Value.int 0, Value.int 0, Value.int 0, Value.int 0, Value.int 0, Value.int 0, Value.int 0, Value.int 0, Value.int 0, Value.int 0, Value.int 0, Value.int 0, Value.int 0, Value.int 0, Value.int 0, Value.int 0, Value.int 0, Value.int 0, Value.int 0, Value.int 0, Value.int 0, Value.int 0, Value.int 0, Value.int 0, Value.int 0, Value.int 0, Value.int 0, Value.int 0, Value.int 0, Value.int 0, Value.int 0, Value.int 0, Value.int 0, Value.int 0, Value.int 0, Value.int 0, Value.int 0, Value.int 0, Value.int 0, Value.int 0, Value.int 0, Value.int 0, Value.int 0, Value.int 0, Value.int 0, Value.int 0, Value.int 0, Value.int 0, Value.int 0, Value.int 0, Value.int 0, Value.int 0, Value.int 0, Value.int 0, Value.int 0, Value.int 0, Value.int 0, Value.int 0, Value.int 0, Value.int 0, Value.int 0, Value.int 0, Value.int 0, Value.int 0, Value.int 0, Value.int 0, Value.int 0, Value.int 0, Value.int 0, Value.int 0, Value.int 0, Value.int 0, Value.int 0, Value.int 0, Value.int 0, Value.int 0, Value.int 0, Value.int 0, Value.int 0, Value.int 0, Value.int 0, Value.int 0, Value.int 0, Value.int 0, Value.int 0, Value.int 0, Value.int 0, Value.int 0, Value.int 0, Value.int 0, Value.int 0, Value.int 0, Value.int 0, Value.int 0, Value.int 0, Value.int 0, Value.int 0, Value.int 0, Value.int 0, Value.int 0, Value.int 0, Value.int 0, Value.int 0, Value.int 0, Value.int 0, Value.int 0, Value.int 0, Value.int 0, Value.int 0, Value.int 0, Value.int 0, Value.int 0, Value.int 0, Value.int 0, Value.int 0, Value.int 0, Value.int 0, Value.int 0, Value.int 0, Value.int 0, Value.int 0, Value.int 0, Value.int 0, Value.int 0, Value.int 0, Value.int 0, Value.int 0, Value.int 0, Value.int 0, Value.int 0, Value.int 0, Value.int 0, Value.int 0, Value.int 0, Value.int 0, Value.int 0, Value.int 0, Value.int 0, Value.int 0, Value.int 0, Value.int 0, Value.int 0, Value.int 0, Value.int 0, Value.int 0, Value.int 0, Value.int 0, Value.int 0, Value.int 0, Value.int 0, Value.int 0, Value.int 0, Value.int 0, Value.int 0, Value.int 0, Value.int 0, Value.int 0, Value.int 0, Value.int 0, Value.int 0, Value.int 0, Value.int 0, Value.int 0, Value.int 0, Value.int 0, Value.int 0, Value.int 0, Value.int 0, Value.int 0, Value.int 0, Value.int 0, Value.int 0, Value.int 0, Value.int 0, Value.int 0, Value.int 0, Value.int 0, Value.int 0, Value.int 0, Value.int 0, Value.int 0, Value.int 0, Value.int 0, Value.int 0, Value.int 0, Value.int 0, Value.int 0, Value.int 0, Value.int 0, Value.int 0, Value.int 0, Value.int 0, Value.int 0, Value.int 0, Value.int 0, Value.int 0, Value.int 0, Value.int 0, Value.int 0, Value.int 0, Value.int 0, Value.int 0, Value.int 0, Value.int 0, Value.int 0, Value.int 0, Value.int 0, Value.int 0, Value.int 0, Value.int 0, Value.int 0, Value.int 0, Value.int 0, Value.int 0, Value.int 0, Value.int 0, Value.int 0, Value.int 0, Value.int 0, Value.int 0, Value.int 0, Value.int 0, Value.int 0, Value.int 0, Value.int 0, Value.int 0, Value.int 0, Value.int 0, Value.int 0, Value.int 0, Value.int 0, Value.int 0, Value.int 0, Value.int 0, Value.int 0, Value.int 0, Value.int 0, Value.int 0, Value.int 0, Value.int 0, Value.int 0, Value.int 0, Value.int 0, Value.int 0, Value.int 0, Value.int 0, Value.int 0, Value.int 0, Value.int 0, Value.int 0, Value.int 0, Value.int 0, Value.int 0, Value.int 0, Value.int 0, Value.int 0, Value.int 0, Value.int 0, Value.int 0, Value.int 0, Value.int 0, Value.int 0, Value.int 0, Value.int 0, Value.int 0, Value.int 0, Value.int 0, Value.int 0, Value.int 0, Value.int 0, Value.int 0, Value.int 0, Value.int 0, Value.int 0, Value.int 0, Value.int 0, Value.int 0, Value.int 0, Value.int 0, Value.int 0, Value.int 0, Value.int 0, Value.int 0, Value.int 0, Value.int 0, Value.int 0, Value.int 0, Value.int 0, Value.int 0, Value.int 0, Value.int 0, Value.int 0, Value.int 0, Value.int 0, Value.int 0, Value.int 0, Value.int 0, Value.int 0, Value.int 0, Value.int 0, Value.int 0, Value.int 0, Value.int 0, Value.int 0, Value.int 0, Value.int 0, Value.int 0, Value.int 0, Value.int 0, Value.int 0, Value.int 0, Value.int 0, Value.int 0, Value.int 0, Value.int 0, Value.int 0, Value.int 0, Value.int 0, Value.int 0, Value.int 0, Value.int 0, Value.int 0, Value.int 0, Value.int 0, Value.int 0, Value.int 0, Value.int 0, Value.int 0, Value.int 0, Value.int 0, Value.int 0, Value.int 0, Value.int 0, Value.int 0, Value.int 0, Value.int 0, Value.int 0, Value.int 0, Value.int 0, Value.int 0, Value.int 0, Value.int 0, Value.int 0, Value.int 0, Value.int 0, Value.int 0, Value.int 0, Value.int 0, Value.int 0, Value.int 0, Value.int 0, Value.int 0, Value.int 0, Value.int 0, Value.int 0, Value.int 0, Value.int 0, Value.int 0, Value.int 0, Value.int 0, Value.int 0, Value.int 0, Value.int 0, Value.int 0, Value.int 0, Value.int 0, Value.int 0, Value.int 0, Value.int 0, Value.int 0, Value.int 0, Value.int 0, Value.int 0, Value.int 0, Value.int 0, Value.int 0, Value.int 0, Value.int 0, Value.int 0, Value.int 0, Value.int 0, Value.int 0, Value.int 0, Value.int 0, Value.int 0, Value.int 0, Value.int 0, Value.int 0, Value.int 0, Value.int 0, Value.int 0, Value.int 0, Value.int 0, Value.int 0, Value.int 0, Value.int 0, Value.int 0, Value.int 0, Value.int 0, Value.int 0, Value.int 0, Value.int 0, Value.int 0, Value.int 0, Value.int 0, Value.int 0, Value.int 0, Value.int 0, Value.int 0, Value.int 0, Value.int 0, Value.int 0, Value.int 0, Value.int 0, Value.int 0, Value.int 0, Value.int 0, Value.int 0, Value.int 0, Value.int 0, Value.int 0, Value.int 0, Value.int 0, Value.int 0, Value.int 0, Value.int 0, Value.int 0, Value.int 0, Value.int 0, Value.int 0, Value.int 0, Value.int 0, Value.int 0, Value.int 0, Value.int 0, Value.int 0, Value.int 0, Value.int 0, Value.int 0, Value.int 0, Value.int 0, Value.int 0, Value.int 0, Value.int 0, Value.int 0, Value.int 0, Value.int 0, Value.int 0, Value.int 0, Value.int 0, Value.int 0, Value.int 0, Value.int 0, Value.int 0, Value.int 0, Value.int 0, Value.int 0, Value.int 0, Value.int 0, Value.int 0, Value.int 0, Value.int 0, Value.int 0, Value.int 0, Value.int 0, Value.int 0, Value.int 0, Value.int 0, Value.int 0, Value.int 0, Value.int 0, Value.int 0, Value.int 0, Value.int 0, Value.int 0, Value.int 0, Value.int 0, Value.int 0, Value.int 0, Value.int 0, Value.int 0, Value.int 0, Value.int 0, Value.int 0, Value.int 0, Value.int 0, Value.int 0, Value.int 0, Value.int 0, Value.int 0, Value.int 0, Value.int 0, Value.int 0, Value.int 0, Value.int 0, Value.int 0, Value.int 0, Value.int 0, Value.int 0, Value.int 0, Value.int 0, Value.int 0, Value.int 0, Value.int 0, Value.int 0, Value.int 0, Value.int 0, Value.int 0, Value.int 0, Value.int 0, Value.int 0, Value.int 0, Value.int 0, Value.int 0, Value.int 0, Value.int 0, Value.int 0, Value.int 0, Value.int 0, Value.int 0, Value.int 0, Value.int 0, Value.int 0, Value.int 0, Value.int 0, Value.int 0, Value.int 0, Value.int 0, Value.int 0, Value.int 0, Value.int 0, Value.int 0, Value.int 0, Value.int 0, Value.int 0, Value.int 0, Value.int 0, Value.int 0, Value.int 0, Value.int 0, Value.int 0, Value.int 0, Value.int 0, Value.int 0, Value.int 0, Value.int 0, Value.int 0, Value.int 0, Value.int 0, Value.int 0, Value.int 0, Value.int 0, Value.int 0, Value.int 0, Value.int 0, Value.int 0, Value.int 0, Value.int 0, Value.int 0, Value.int 0, Value.int 0, Value.int 0, Value.int 0, Value.int 0, Value.int 0, Value.int 0, Value.int 0, Value.int 0, Value.int 0, Value.int 0, Value.int 0, Value.int 0, Value.int 0, Value.int 0, Value.int 0, Value.int 0, Value.int 0, Value.int 0, Value.int 0, Value.int 0, Value.int 0, Value.int 0, Value.int 0, Value.int 0, Value.int 0, Value.int 0, Value.int 0, Value.int 0, Value.int 0, Value.int 0, Value.int 0, Value.int 0, Value.int 0, Value.int 0, Value.int 0, Value.int 0, Value.int 0, Value.int 0, Value.int 0, Value.int 0, Value.int 0, Value.int 0, Value.int 0, Value.int 0, Value.int 0, Value.int 0, Value.int 0, Value.int 0, Value.int 0, Value.int 0, Value.int 0, Value.int 0, Value.int 0, Value.int 0, Value.int 0, Value.int 0, Value.int 0, Value.int 0, Value.int 0, Value.int 0, Value.int 0, Value.int 0, Value.int 0, Value.int 0, Value.int 0, Value.int 0, Value.int 0, Value.int 0, Value.int 0, Value.int 0, Value.int 0, Value.int 0, Value.int 0, Value.int 0, Value.int 0, Value.int 0, Value.int 0, Value.int 0, Value.int 0, Value.int 0, Value.int 0, Value.int 0, Value.int 0, Value.int 0, Value.int 0, Value.int 0, Value.int 0, Value.int 0, Value.int 0, Value.int 0, Value.int 0, Value.int 0, Value.int 0, Value.int 0, Value.int 0, Value.int 0, Value.int 0, Value.int 0, Value.int 0, Value.int 0, Value.int 0, Value.int 0, Value.int 0, Value.int 0, Value.int 0, Value.int 0, Value.int 0, Value.int 0, Value.int 0, Value.int 0, Value.int 0, Value.int 0, Value.int 0, Value.int 0, Value.int 0, Value.int 0, Value.int 0, Value.int 0, Value.int 0, Value.int 0, Value.int 0, Value.int 0, Value.int 0, Value.int 0, Value.int 0, Value.int 0, Value.int 0, Value.int 0, Value.int 0, Value.int 0, Value.int 0, Value.int 0, Value.int 0, Value.int 0, Value.int 0, Value.int 0, Value.int 0, Value.int 0, Value.int 0, Value.int 0, Value.int 0, Value.int 0, Value.int 0, Value.int 0, Value.int 0, Value.int 0, Value.int 0, Value.int 0, Value.int 0, Value.int 0, Value.int 0, Value.int 0, Value.int 0, Value.int 0, Value.int 0, Value.int 0, Value.int 0, Value.int 0, Value.int 0, Value.int 0, Value.int 0, Value.int 0, Value.int 0, Value.int 0, Value.int 0, Value.int 0, Value.int 0, Value.int 0, Value.int 0, Value.int 0, Value.int 0, Value.int 0, Value.int 0, Value.int 0, Value.int 0, Value.int 0, Value.int 0, Value.int 0, Value.int 0, Value.int 0, Value.int 0, Value.int 0, Value.int 0, Value.int 0, Value.int 0, Value.int 0, Value.int 0, Value.int 0, Value.int 0, Value.int 0, Value.int 0, Value.int 0, Value.int 0, Value.int 0, Value.int 0, Value.int 0, Value.int 0, Value.int 0, Value.int 0, Value.int 0, Value.int 0, Value.int 0, Value.int 0, Value.int 0, Value.int 0, Value.int 0, Value.int 0, Value.int 0, Value.int 0, Value.int 0, Value.int 0, Value.int 0, Value.int 0, Value.int 0, Value.int 0, Value.int 0, Value.int 0, Value.int 0, Value.int 0, Value.int 0, Value.int 0, Value.int 0, Value.int 0, Value.int 0, Value.int 0, Value.int 0, Value.int 0, Value.int 0, Value.int 0, Value.int 0, Value.int 0, Value.int 0, Value.int 0, Value.int 0, Value.int 0, Value.int 0, Value.int 0, Value.int 0, Value.int 0, Value.int 0, Value.int 0, Value.int 0, Value.int 0, Value.int 0, Value.int 0, Value.int 0, Value.int 0, Value.int 0, Value.int 0, Value.int 0, Value.int 0, Value.int 0, Value.int 0, Value.int 0, Value.int 0, Value.int 0, Value.int 0, Value.int 0, Value.int 0, Value.int 0, Value.int 0, Value.int 0, Value.int 0, Value.int 0, Value.int 0, Value.int 0, Value.int 0, Value.int 0, Value.int 0, Value.int 0, Value.int 0, Value.int 0, Value.int 0, Value.int 0, Value.int 0, Value.int 0, Value.int 0, Value.int 0, Value.int 0, Value.int 0, Value.int 0, Value.int 0, Value.int 0, Value.int 0, Value.int 0, Value.int 0, Value.int 0, Value.int 0, Value.int 0, Value.int 0, Value.int 0, Value.int 0, Value.int 0, Value.int 0, Value.int 0, Value.int 0, Value.int 0, Value.int 0, Value.int 0, Value.int 0, Value.int 0, Value.int 0, Value.int 0, Value.int 0, Value.int 0, Value.int 0, Value.int 0, Value.int 0, Value.int 0, Value.int 0, Value.int 0, Value.int 0, Value.int 0, Value.int 0, Value.int 0, Value.int 0, Value.int 0, Value.int 0, Value.int 0, Value.int 0, Value.int 0, Value.int 0, Value.int 0, Value.int 0, Value.int 0, Value.int 0, Value.int 0, Value.int 0, Value.int 0, Value.int 0, Value.int 0, Value.int 0, Value.int 0, Value.int 0, Value.int 0, Value.int 0, Value.int 0, Value.int 0, Value.int 0, Value.int 0, Value.int 0, Value.int 0, Value.int 0, Value.int 0, Value.int 0, Value.int 0, Value.int 0, Value.int 0, Value.int 0, Value.int 0, Value.int 0, Value.int 0, Value.int 0, Value.int 0, Value.int 0, Value.int 0, Value.int 0, Value.int 0, Value.int 0, Value.int 0, Value.int 0, Value.int 0, Value.int 0, Value.int 0, Value.int 0, Value.int 0, Value.int 0, Value.int 0, Value.int 0, Value.int 0, Value.int 0, Value.int 0, Value.int 0, Value.int 0, Value.int 0, Value.int 0, Value.int 0, Value.int 0, Value.int 0, Value.int 0, Value.int 0, Value.int 0, Value.int 0, Value.int 0, Value.int 0, Value.int 0, Value.int 0, Value.int 0, Value.int 0, Value.int 0, Value.int 0, Value.int 0, Value.int 0, Value.int 0, Value.int 0, Value.int 0, Value.int 0, Value.int 0, Value.int 0, Value.int 0, Value.int 0, Value.int 0, Value.int 0, Value.int 0, Value.int 0, Value.int 0, Value.int 0, Value.int 0, Value.int 0, Value.int 0, Value.int 0, Value.int 0, Value.int 0, Value.int 0, Value.int 0, Value.int 0, Value.int 0, Value.int 0, Value.int 0, Value.int 0, Value.int 0, Value.int 0, Value.int 0, Value.int 0, Value.int 0, Value.int 0, Value.int 0, Value.int 0, Value.int 0, Value.int 0, Value.int 0, Value.int 0, Value.int 0, Value.int 0, Value.int 0, Value.int 0, Value.int 0, Value.int 0, Value.int 0, Value.int 0, Value.int 0, Value.int 0, Value.int 0, Value.int 0, Value.int 0, Value.int 0, Value.int 0, Value.int 0, Value.int 0, Value.int 0, Value.int 0, Value.int 0, Value.int 0, Value.int 0, Value.int 0, Value.int 0, Value.int 0, Value.int 0, Value.int 0, Value.int 0, Value.int 0, Value.int 0, Value.int 0, Value.int 0, Value.int 0, Value.int 0, Value.int 0, Value.int 0, Value.int 0, Value.int 0, Value.int 0, Value.int 0, Value.int 0, Value.int 0, Value.int 0, Value.int 0, Value.int 0, Value.int 0, Value.int 0, Value.int 0, Value.int 0, Value.int 0, Value.int 0, Value.int 0, Value.int 0, Value.int 0, Value.int 0, Value.int 0, Value.int 0, Value.int 0, Value.int 0, Value.int 0, Value.int 0, Value.int 0, Value.int 0, Value.int 0, Value.int 0, Value.int 0, Value.int 0, Value.int 0, Value.int 0, Value.int 0, Value.int 0, Value.int 0, Value.int 1, Value.int 0, Value.int 0, Value.int 0, Value.int 0, Value.int 0, Value.int 0, Value.int 0, Value.int 0, Value.int 0, Value.int 0, Value.int 0, Value.int 0, Value.int 0, Value.int 0, Value.int 0, Value.int 0, Value.int 0, Value.int 0, Value.int 0, Value.int 0, Value.int 0, Value.int 0, Value.int 0, Value.int 0, Value.int 0, Value.int 0, Value.int 0, Value.int 0, Value.int 0, Value.int 0, Value.int 0, Value.int 0, Value.int 0, Value.int 0, Value.int 0, Value.int 0, Value.int 0, Value.int 0, Value.int 0, Value.int 0, Value.int 0, Value.int 0, Value.int 0, Value.int 0, Value.int 0, Value.int 0, Value.int 0, Value.int 0, Value.int 0, Value.int 0, Value.int 0, Value.int 0, Value.int 0, Value.int 0, Value.int 0, Value.int 0, Value.int 0, Value.int 0, Value.int 0, Value.int 0, Value.int 0, Value.int 0, Value.int 0, Value.int 0, Value.int 0, Value.int 0, Value.int 0, Value.int 0, Value.int 0, Value.int 0, Value.int 0, Value.int 0, Value.int 0, Value.int 0, Value.int 0, Value.int 0, Value.int 0, Value.int 0, Value.int 0, Value.int 0, Value.int 0, Value.int 0, Value.int 0, Value.int 0, Value.int 0, Value.int 0, Value.int 0, Value.int 0, Value.int 0, Value.int 0, Value.int 0, Value.int 0, Value.int 0, Value.int 0, Value.int 0, Value.int 0, Value.int 0, Value.int 0, Value.int 0, Value.int 0, Value.int 0, Value.int 0, Value.int 0, Value.int 0, Value.int 0, Value.int 0, Value.int 0, Value.int 0, Value.int 0, Value.int 0, Value.int 0, Value.int 0, Value.int 0, Value.int 0, Value.int 0, Value.int 0, Value.int 0, Value.int 0, Value.int 0, Value.int 0, Value.int 0, Value.int 0, Value.int 0, Value.int 0, Value.int 0, Value.int 0, Value.int 0, Value.int 0, Value.int 0] : List Value))).set 155 (13, ([Value.int 0, Value.int 0, Value.int 0, Value.int 0, Value.int 0, Value.int 0, Value.int 0, Value.int 0, Value.int 0, Value.int 0, Value.int 1] : List Value))).set 157 (15, ([Value.int 0, Value.int 0, Value.int 0, Value.int 0, Value.int 0, Value.int 0, Value.int 0, Value.int 0, Value.int 0, Value.int 0, Value.int 0, Value.int 0, Value.int 0, Value.int 0, Value.int 0, Value.int 0, Value.int 0, Value.int 0, Value.int 0, Value.int 0, Value.int 0, Value.int 0, Value.int 0, Value.int 0, Value.int 0, Value.int 0, Value.int 0, Value.int 0, Value.int 0, Value.int 0, Value.int 0, Value.int 0, Value.int 0, Value.int 0, Value.int 0, Value.int 0, Value.int 0, Value.int 0, Value.int 0, Value.int 0, Value.int 0, Value.int 0, Value.int 0, Value.int 0, Value.int 0, Value.int 0, Value.int 0, Value.int 0, Value.int 0, Value.int 0, Value.int 0, Value.int 0, Value.int 0, Value.int 0, Value.int 0, Value.int 0, Value.int 0, Value.int 0, Value.int 0, Value.int 0, Value.int 0, Value.int 0, Value.int 0, Value.int 0, Value.int 0, Value.int 0, Value.int 0, Value.int 0, Value.int 0, Value.int 0, Value.int 0, Value.int 0, Value.int 0, Value.int 0, Value.int 0, Value.int 0, Value.int 0, Value.int 0, Value.int 0, Value.int 0, Value.int 0, Value.int 0, Value.int 0, Value.int 0, Value.int 0, Value.int 0, Value.int 0, Value.int 0, Value.int 0, Value.int 0, Value.int 0, Value.int 0, Value.int 0, Value.int 0, Value.int 0, Value.int 0, Value.int 0, Value.int 0, Value.int 0, Value.int 0, Value.int 0, Value.int 0, Value.int 0, Value.int 0, Value.int 0, Value.int 0, Value.int 0, Value.int 0, Value.int 0, Value.int 0, Value.int 0, Value.int 0, Value.int 0, Value.int 0, Value.int 0, Value.int 0, Value.int 0, Value.int 0, Value.int 0, Value.int 0, Value.int 0, Value.int 0, Value.int 0, Value.int 0, Value.int 0, Value.int 0, Value.int 0, Value.int 0, Value.int 0, Value.int 0, Value.int 0, Value.int 0, Value.int 0, Value.int 0, Value.int 0, Value.int 0, Value.int 0, Value.int 0, Value.int 0, Value.int 0, Value.int 0, Value.int 0, Value.int 0, Value.int 0, Value.int 0, Value.int 0, Value.int 0, Value.int 0, Value.int 0, Value.int 0, Value.int 0, Value.int 0, Value.int 0, Value.int 0, Value.int 0, Value.int 0, Value.int 0, Value.int 0, Value.int 0, Value.int 0, Value.int 0, Value.int 0, Value.int 0, Value.int 0, Value.int 0, Value.int 0, Value.int 0, Value.int 0, Value.int 0, Value.int 0, Value.int 0, Value.int 0, Value.int 0, Value.int 0, Value.int 0, Value.int 0, Value.int 0, Value.int 0, Value.int 0, Value.int 0, Value.int 0, Value.int 0, Value.int 0, Value.int 0, Value.int 0, Value.int 0, Value.int 0, Value.int 0, Value.int 0, Value.int 0, Value.int 0, Value.int 0, Value.int 0, Value.int 0, Value.int 0, Value.int 0, Value.int 0, Value.int 0, Value.int 0, Value.int 0, Value.int 0, Value.int 0, Value.int 0, Value.int 0, Value.int 0, Value.int 0, Value.int 0, Value.int 0, Value.int 0, Value.int 0, Value.int 0, Value.int 0, Value.int 0, Value.int 0, Value.int 0, Value.int 0, Value.int 0, Value.int 0, Value.int 0, Value.int 0, Value.int 0, Value.int 0, Value.int 0, Value.int 0, Value.int 0, Value.int 0, Value.int 0, Value.int 0, Value.int 0, Value.int 0, Value.int 0, Value.int 0, Value.int 0, Value.int 0, Value.int 0, Value.int 0, Value.int 0, Value.int 0, Value.int 0, Value.int 0, Value.int 0, Value.int 0, Value.int 0, Value.int 0, Value.int 0, Value.int 0, Value.int 0, Value.int 0, Value.int 0, Value.int 0, Value.int 0, Value.int 0, Value.int 0, Value.int 0, Value.int 0, Value.int 0, Value.int 0, Value.int 0, Value.int 0, Value.int 0, Value.int 0, Value.int 0, Value.int 0, Value.int 0, Value.int 0, Value.int 0, Value.int 0, Value.int 0, Value.int 0, Value.int 0, Value.int 0, Value.int 0, Value.int 0, Value.int 0, Value.int 0, Value.int 0, Value.int 0, Value.int 0, Value.int 0, Value.int 0, Value.int 0, Value.int 0, Value.int 0, Value.int 0, Value.int 0, Value.int 0, Value.int 0, Value.int 0, Value.int 0, Value.int 0, Value.int 0, Value.int 0, Value.int 0, Value.int 0, Value.int 0, Value.int 0, Value.int 0, Value.int 0, Value.int 0, Value.int 0, Value.int 0, Value.int 0, Value.int 0, Value.int 0, Value.int 0, Value.int 0, Value.int 0, Value.int 0, Value.int 0, Value.int 0, Value.int 0, Value.int 0, Value.int 0, Value.int 0, Value.int 0, Value.int 0, Value.int 0, Value.int 0, Value.int 0, Value.int 0, Value.int 0, Value.int 0, Value.int 0, Value.int 0, Value.int 0, Value.int 0, Value.int 0, Value.int 0, Value.int 0, Value.int 0, Value.int 0, Value.int 0, Value.int 0, Value.int 0, Value.int 0, Value.int 0, Value.int 0, Value.int 0, Value.int 0, Value.int 0, Value.int 0, Value.int 0, Value.int 0, Value.int 0, Value.int 0, Value.int 0, Value.int 0, Value.int 0, Value.int 0, Value.int 0, Value.int 0, Value.int 0, Value.int 0, Value.int 0, Value.int 0, Value.int 0, Value.int 0, Value.int 0, Value.int 0, Value.int 0, Value.int 0, Value.int 0, Value.int 0, Value.int 0, Value.int 0, Value.int 0, Value.int 0, Value.int 0, Value.int 0, Value.int 0, Value.int 0, Value.int 0, Value.int 0, Value.int 0, Value.int 0, Value.int 0, Value.int 0, Value.int 0, Value.int 0, Value.int 0, Value.int 0, Value.int 0, Value.int 0, Value.int 0, Value.int 0, Value.int 0, Value.int 0, Value.int 0, Value.int 0, Value.int 0, Value.int 0, Value.int 0, Value.int 0, Value.int 0, Value.int 0, Value.int 0, Value.int 0, Value.int 0, Value.int 0, Value.int 0, Value.int 0, Value.int 0, Value.int 0, Value.int 0, Value.int 0, Value.int 0, Value.int 0, Value.int 0, Value.int 0, Value.int 0, Value.int 0, Value.int 0, Value.int 0, Value.int 0, Value.int 0, Value.int 0, Value.int 0, Value.int 0, Value.int 0, Value.int 0, Value.int 0, Value.int 0, Value.int 0, Value.int 0, Value.int 0, Value.int 0, Value.int 0, Value.int 0, Value.int 0, Value.int 0, Value.int 0, Value.int 0, Value.int 0, Value.int 0, Value.int 0, Value.int 0, Value.int 0, Value.int 0, Value.int 0, Value.int 0, Value.int 0, Value.int 0, Value.int 0, Value.int 0, Value.int 0, Value.int 0, Value.int 0, Value.int 0, Value.int 0, Value.int 0, Value.int 0, Value.int 0, Value.int 0, Value.int 0, Value.int 0, Value.int 0, Value.int 0, Value.int 0, Value.int 0, Value.int 0, Value.int 0, Value.int 0, Value.int 0, Value.int 0, Value.int 0, Value.int 0, Value.int 0, Value.int 0, Value.int 0, Value.int 0, Value.int 0, Value.int 0, Value.int 0, Value.int 0, Value.int 0, Value.int 0, Value.int 0, Value.int 0, Value.int 0, Value.int 0, Value.int 0, Value.int 0, Value.int 0, Value.int 0, Value.int 0, Value.int 0, Value.int 0, Value.int 0, Value.int 0, Value.int 0, Value.int 0, Value.int 0, Value.int 0, Value.int 0, Value.int 0, Value.int 0, Value.int 0, Value.int 0, Value.int 0, Value.int 0, Value.int 0, Value.int 0, Value.int 0, Value.int 0, Value.int 0, Value.int 0, Value.int 0, Value.int 0, Value.int 0, Value.int 0, Value.int 0, Value.int 0, Value.int 0, Value.int 0, Value.int 0, Value.int 0, Value.int 0, Value.int 0, Value.int 0, Value.int 0, Value.int 0, Value.int 0, Value.int 0, Value.int 0, Value.int 0, Value.int 0, Value.int 0, Value.int 0, Value.int 0, Value.int 0, Value.int 0, Value.int 0, Value.int 0, Value.int 0, Value.int 0, Value.int 0, Value.int 0, Value.int 0, Value.int 0, Value.int 0, Value.int 0, Value.int 0, Value.int 0, Value.int 0, Value.int 0, Value.int 0, Value.int 0, Value.int 0, Value.int 0, Value.int 0, Value.int 0, Value.int 0, Value.int 0, Value.int 0, Value.int 0, Value.int 0, Value.int 0, Value.int 0, Value.int 0, Value.int 0, Value.int 0, Value.int 0, Value.int 0, Value.int 0, Value.int 0, Value.int 0, Value.int 0, Value.int 0, Value.int 0, Value.int 0, Value.int 0, Value.int 0, Value.int 0, Value.int 0, Value.int 0, Value.int 0, Value.int 0, Value.int 0, Value.int 0, Value.int 0, Value.int 0, Value.int 0, Value.int 0, Value.int 0, Value.int 0, Value.int 0, Value.int 0, Value.int 0, Value.int 0, Value.int 0, Value.int 0, Value.int 0, Value.int 0, Value.int 0, Value.int 0, Value.int 0, Value.int 0, Value.int 0, Value.int 0, Value.int 0, Value.int 0, Value.int 0, Value.int 0, Value.int 0, Value.int 0, Value.int 0, Value.int 0, Value.int 0, Value.int 0, Value.int 0, Value.int 1, Value.int 0, Value.int 0, Value.int 0, Value.int 0, Value.int 0, Value.int 0, Value.int 0, Value.int 0, Value.int 0, Value.int 0, Value.int 0, Value.int 0, Value.int 0, Value.int 0, Value.int 0, Value.int 0, Value.int 0, Value.int 0, Value.int 0, Value.int 0, Value.int 0, Value.int 0, Value.int 0, Value.int 0, Value.int 0, Value.int 0, Value.int 0, Value.int 0, Value.int 0, Value.int 0, Value.int 0, Value.int 0, Value.int 0, Value.int 0, Value.int 0, Value.int 0, Value.int 0, Value.int 0, Value.int 0, Value.int 0, Value.int 0, Value.int 0, Value.int 0, Value.int 0, Value.int 0, Value.int 0, Value.int 0, Value.int 0, Value.int 0, Value.int 0, Value.int 0, Value.int 0, Value.int 0, Value.int 0, Value.int 0, Value.int 0, Value.int 0, Value.int 0, Value.int 0, Value.int 0] : List Value)))) rfl ?_
                  refine s_ek_ret (o := some (.int (-100))) (fun _ => rfl) ?_
                  exact rfl
set_option maxHeartbeats 20000000 in
set_option maxRecDepth 100000 in
theorem s_op_laws (L : Nat) (xs : Nat → Int32) (a : Int32) (b : Int32) (c : Int32) : s_Ek (s_rows 3 L xs) 1299 s_e136.1 0 (lv_args 0 [.ref 0, .int a, .int b, .int c]) [] s_M0 (fun v M1 => ∃ r : Int32, v = some (.int r) ∧ s_Ek (s_rows 3 L xs) 1299 s_e207.1 0 (lv_args 0 [.ref 151, .int a, .int b, .int c]) [] M1 (fun w _ => w = some (.int r))) := by
  show s_Ek (s_rows 3 L xs) 1299 s_e136.1 0 [(0, .ref 0), (1, .int a), (2, .int b), (3, .int c)] [] s_M0 _
  refine s_ek_bk 1 (P := 1) (ls' := [(0, .ref 0), (1, .int a), (2, .int b), (3, .int c)]) (st' := [.int a]) (M' := s_M0) rfl ?_
  refine s_ek_call (ν := s_e175.1) (P := 4) (as := [.int a]) (r := []) (fun _ => rfl) rfl ?_
  show s_Ek (s_rows 3 L xs) 1298 s_e175.1 0 [(0, .int a)] [] s_M0 _
  refine s_ek_bk 1 (P := 1) (ls' := [(0, .int a)]) (st' := [.int a]) (M' := s_M0) rfl ?_
  refine s_ek_if1 (T := 14) rfl rfl (fun h1 => ?_) (fun h1 => ?_)
  · replace h1 : a.toInt < 0 := h1
    refine s_ek_bk 1 (P := 15) (ls' := [(0, .int a)]) (st' := [.int 0]) (M' := s_M0) rfl ?_
    refine s_ek_ret (o := some (.int 0)) (fun _ => rfl) ?_
    show s_Ek (s_rows 3 L xs) 1299 s_e136.1 4 [(0, .ref 0), (1, .int a), (2, .int b), (3, .int c)] [.int 0] s_M0 _
    refine s_ek_bk 2 (P := 19) (ls' := [(0, .ref 0), (1, .int a), (2, .int b), (3, .int c)]) (st' := [.int (-1)]) (M' := s_M0) rfl ?_
    refine s_ek_ret (o := some (.int (-1))) (fun _ => rfl) ?_
    refine ⟨(-1), rfl, ?_⟩
    show s_Ek (s_rows 3 L xs) 1299 s_e207.1 0 [(0, .ref 151), (1, .int a), (2, .int b), (3, .int c)] [] s_M0 _
    refine s_ek_bk 1 (P := 1) (ls' := [(0, .ref 151), (1, .int a), (2, .int b), (3, .int c)]) (st' := [.int a]) (M' := s_M0) rfl ?_
    refine s_ek_call (ν := s_e281.1) (P := 4) (as := [.int a]) (r := []) (fun _ => rfl) rfl ?_
    show s_Ek (s_rows 3 L xs) 1298 s_e281.1 0 [(0, .int a)] [] s_M0 _
    refine s_ek_bk 3 (P := 3) (ls' := [(0, .int a)]) (st' := [.int 5, .int 0, .int a]) (M' := s_M0) rfl ?_
    refine s_ek_call (ν := s_e181.1) (P := 6) (as := [.int a, .int 0, .int 5]) (r := []) (fun _ => rfl) rfl ?_
    show s_Ek (s_rows 3 L xs) 1297 s_e181.1 0 [(0, .int a), (1, .int 0), (2, .int 5)] [] s_M0 _
    refine s_ek_bk 2 (P := 2) (ls' := [(0, .int a), (1, .int 0), (2, .int 5)]) (st' := [.int 0, .int a]) (M' := s_M0) rfl ?_
    refine s_ek_if2 (T := 14) rfl rfl (fun h2 => ?_) (fun h2 => ?_)
    · replace h2 : a.toInt < 0 := h2
      refine s_ek_bk 1 (P := 15) (ls' := [(0, .int a), (1, .int 0), (2, .int 5)]) (st' := [.int 0]) (M' := s_M0) rfl ?_
      refine s_ek_ret (o := some (.int 0)) (fun _ => rfl) ?_
      show s_Ek (s_rows 3 L xs) 1298 s_e281.1 6 [(0, .int a)] [.int 0] s_M0 _
      refine s_ek_ret (o := some (.int 0)) (fun _ => rfl) ?_
      show s_Ek (s_rows 3 L xs) 1299 s_e207.1 4 [(0, .ref 151), (1, .int a), (2, .int b), (3, .int c)] [.int 0] s_M0 _
      refine s_ek_bk 2 (P := 18) (ls' := [(0, .ref 151), (1, .int a), (2, .int b), (3, .int c)]) (st' := [.int (-1)]) (M' := s_M0) rfl ?_
      refine s_ek_ret (o := some (.int (-1))) (fun _ => rfl) ?_
      exact rfl
    · replace h2 : ¬ (a.toInt < 0) := h2
      replace h2 : 0 ≤ a.toInt := by omega
      omega
  · replace h1 : ¬ (a.toInt < 0) := h1
    replace h1 : 0 ≤ a.toInt := by omega
    refine s_ek_bk 2 (P := 7) (ls' := [(0, .int a)]) (st' := [.int 6, .int a]) (M' := s_M0) rfl ?_
    refine s_ek_if2 (T := 14) rfl rfl (fun h2 => ?_) (fun h2 => ?_)
    · replace h2 : 6 ≤ a.toInt := h2
      refine s_ek_bk 1 (P := 15) (ls' := [(0, .int a)]) (st' := [.int 0]) (M' := s_M0) rfl ?_
      refine s_ek_ret (o := some (.int 0)) (fun _ => rfl) ?_
      show s_Ek (s_rows 3 L xs) 1299 s_e136.1 4 [(0, .ref 0), (1, .int a), (2, .int b), (3, .int c)] [.int 0] s_M0 _
      refine s_ek_bk 2 (P := 19) (ls' := [(0, .ref 0), (1, .int a), (2, .int b), (3, .int c)]) (st' := [.int (-1)]) (M' := s_M0) rfl ?_
      refine s_ek_ret (o := some (.int (-1))) (fun _ => rfl) ?_
      refine ⟨(-1), rfl, ?_⟩
      show s_Ek (s_rows 3 L xs) 1299 s_e207.1 0 [(0, .ref 151), (1, .int a), (2, .int b), (3, .int c)] [] s_M0 _
      refine s_ek_bk 1 (P := 1) (ls' := [(0, .ref 151), (1, .int a), (2, .int b), (3, .int c)]) (st' := [.int a]) (M' := s_M0) rfl ?_
      refine s_ek_call (ν := s_e281.1) (P := 4) (as := [.int a]) (r := []) (fun _ => rfl) rfl ?_
      show s_Ek (s_rows 3 L xs) 1298 s_e281.1 0 [(0, .int a)] [] s_M0 _
      refine s_ek_bk 3 (P := 3) (ls' := [(0, .int a)]) (st' := [.int 5, .int 0, .int a]) (M' := s_M0) rfl ?_
      refine s_ek_call (ν := s_e181.1) (P := 6) (as := [.int a, .int 0, .int 5]) (r := []) (fun _ => rfl) rfl ?_
      show s_Ek (s_rows 3 L xs) 1297 s_e181.1 0 [(0, .int a), (1, .int 0), (2, .int 5)] [] s_M0 _
      refine s_ek_bk 2 (P := 2) (ls' := [(0, .int a), (1, .int 0), (2, .int 5)]) (st' := [.int 0, .int a]) (M' := s_M0) rfl ?_
      refine s_ek_if2 (T := 14) rfl rfl (fun h3 => ?_) (fun h3 => ?_)
      · replace h3 : a.toInt < 0 := h3
        omega
      · replace h3 : ¬ (a.toInt < 0) := h3
        replace h3 : 0 ≤ a.toInt := by omega
        refine s_ek_bk 2 (P := 7) (ls' := [(0, .int a), (1, .int 0), (2, .int 5)]) (st' := [.int 5, .int a]) (M' := s_M0) rfl ?_
        refine s_ek_if2 (T := 14) rfl rfl (fun h4 => ?_) (fun h4 => ?_)
        · replace h4 : 5 < a.toInt := h4
          refine s_ek_bk 1 (P := 15) (ls' := [(0, .int a), (1, .int 0), (2, .int 5)]) (st' := [.int 0]) (M' := s_M0) rfl ?_
          refine s_ek_ret (o := some (.int 0)) (fun _ => rfl) ?_
          show s_Ek (s_rows 3 L xs) 1298 s_e281.1 6 [(0, .int a)] [.int 0] s_M0 _
          refine s_ek_ret (o := some (.int 0)) (fun _ => rfl) ?_
          show s_Ek (s_rows 3 L xs) 1299 s_e207.1 4 [(0, .ref 151), (1, .int a), (2, .int b), (3, .int c)] [.int 0] s_M0 _
          refine s_ek_bk 2 (P := 18) (ls' := [(0, .ref 151), (1, .int a), (2, .int b), (3, .int c)]) (st' := [.int (-1)]) (M' := s_M0) rfl ?_
          refine s_ek_ret (o := some (.int (-1))) (fun _ => rfl) ?_
          exact rfl
        · replace h4 : ¬ (5 < a.toInt) := h4
          replace h4 : a.toInt ≤ 5 := by omega
          omega
    · replace h2 : ¬ (6 ≤ a.toInt) := h2
      replace h2 : a.toInt < 6 := by omega
      refine s_ek_bk 2 (P := 15) (ls' := [(0, .int a)]) (st' := [.int 1]) (M' := s_M0) rfl ?_
      refine s_ek_ret (o := some (.int 1)) (fun _ => rfl) ?_
      show s_Ek (s_rows 3 L xs) 1299 s_e136.1 4 [(0, .ref 0), (1, .int a), (2, .int b), (3, .int c)] [.int 1] s_M0 _
      refine s_ek_bk 3 (P := 9) (ls' := [(0, .ref 0), (1, .int a), (2, .int b), (3, .int c)]) (st' := [.int 1, .int c]) (M' := s_M0) rfl ?_
      refine s_ek_if2 (T := 18) rfl rfl (fun h3 => ?_) (fun h3 => ?_)
      · replace h3 : c.toInt < 1 := h3
        refine s_ek_bk 1 (P := 19) (ls' := [(0, .ref 0), (1, .int a), (2, .int b), (3, .int c)]) (st' := [.int (-1)]) (M' := s_M0) rfl ?_
        refine s_ek_ret (o := some (.int (-1))) (fun _ => rfl) ?_
        refine ⟨(-1), rfl, ?_⟩
        show s_Ek (s_rows 3 L xs) 1299 s_e207.1 0 [(0, .ref 151), (1, .int a), (2, .int b), (3, .int c)] [] s_M0 _
        refine s_ek_bk 1 (P := 1) (ls' := [(0, .ref 151), (1, .int a), (2, .int b), (3, .int c)]) (st' := [.int a]) (M' := s_M0) rfl ?_
        refine s_ek_call (ν := s_e281.1) (P := 4) (as := [.int a]) (r := []) (fun _ => rfl) rfl ?_
        show s_Ek (s_rows 3 L xs) 1298 s_e281.1 0 [(0, .int a)] [] s_M0 _
        refine s_ek_bk 3 (P := 3) (ls' := [(0, .int a)]) (st' := [.int 5, .int 0, .int a]) (M' := s_M0) rfl ?_
        refine s_ek_call (ν := s_e181.1) (P := 6) (as := [.int a, .int 0, .int 5]) (r := []) (fun _ => rfl) rfl ?_
        show s_Ek (s_rows 3 L xs) 1297 s_e181.1 0 [(0, .int a), (1, .int 0), (2, .int 5)] [] s_M0 _
        refine s_ek_bk 2 (P := 2) (ls' := [(0, .int a), (1, .int 0), (2, .int 5)]) (st' := [.int 0, .int a]) (M' := s_M0) rfl ?_
        refine s_ek_if2 (T := 14) rfl rfl (fun h4 => ?_) (fun h4 => ?_)
        · replace h4 : a.toInt < 0 := h4
          omega
        · replace h4 : ¬ (a.toInt < 0) := h4
          replace h4 : 0 ≤ a.toInt := by omega
          refine s_ek_bk 2 (P := 7) (ls' := [(0, .int a), (1, .int 0), (2, .int 5)]) (st' := [.int 5, .int a]) (M' := s_M0) rfl ?_
          refine s_ek_if2 (T := 14) rfl rfl (fun h5 => ?_) (fun h5 => ?_)
          · replace h5 : 5 < a.toInt := h5
            omega
          · replace h5 : ¬ (5 < a.toInt) := h5
            replace h5 : a.toInt ≤ 5 := by omega
            refine s_ek_bk 2 (P := 15) (ls' := [(0, .int a), (1, .int 0), (2, .int 5)]) (st' := [.int 1]) (M' := s_M0) rfl ?_
            refine s_ek_ret (o := some (.int 1)) (fun _ => rfl) ?_
            show s_Ek (s_rows 3 L xs) 1298 s_e281.1 6 [(0, .int a)] [.int 1] s_M0 _
            refine s_ek_ret (o := some (.int 1)) (fun _ => rfl) ?_
            show s_Ek (s_rows 3 L xs) 1299 s_e207.1 4 [(0, .ref 151), (1, .int a), (2, .int b), (3, .int c)] [.int 1] s_M0 _
            refine s_ek_bk 4 (P := 11) (ls' := [(0, .ref 151), (1, .int a), (2, .int b), (3, .int c)]) (st' := [.int 10, .int 1, .int c]) (M' := s_M0) rfl ?_
            refine s_ek_call (ν := s_e181.1) (P := 14) (as := [.int c, .int 1, .int 10]) (r := []) (fun _ => rfl) rfl ?_
            show s_Ek (s_rows 3 L xs) 1298 s_e181.1 0 [(0, .int c), (1, .int 1), (2, .int 10)] [] s_M0 _
            refine s_ek_bk 2 (P := 2) (ls' := [(0, .int c), (1, .int 1), (2, .int 10)]) (st' := [.int 1, .int c]) (M' := s_M0) rfl ?_
            refine s_ek_if2 (T := 14) rfl rfl (fun h6 => ?_) (fun h6 => ?_)
            · replace h6 : c.toInt < 1 := h6
              refine s_ek_bk 1 (P := 15) (ls' := [(0, .int c), (1, .int 1), (2, .int 10)]) (st' := [.int 0]) (M' := s_M0) rfl ?_
              refine s_ek_ret (o := some (.int 0)) (fun _ => rfl) ?_
              show s_Ek (s_rows 3 L xs) 1299 s_e207.1 14 [(0, .ref 151), (1, .int a), (2, .int b), (3, .int c)] [.int 0] s_M0 _
              refine s_ek_bk 2 (P := 18) (ls' := [(0, .ref 151), (1, .int a), (2, .int b), (3, .int c)]) (st' := [.int (-1)]) (M' := s_M0) rfl ?_
              refine s_ek_ret (o := some (.int (-1))) (fun _ => rfl) ?_
              exact rfl
            · replace h6 : ¬ (c.toInt < 1) := h6
              replace h6 : 1 ≤ c.toInt := by omega
              omega
      · replace h3 : ¬ (c.toInt < 1) := h3
        replace h3 : 1 ≤ c.toInt := by omega
        refine s_ek_bk 2 (P := 15) (ls' := [(0, .ref 0), (1, .int a), (2, .int b), (3, .int c)]) (st' := [.int 10, .int c]) (M' := s_M0) rfl ?_
        refine s_ek_if2 (T := 20) rfl rfl (fun h4 => ?_) (fun h4 => ?_)
        · replace h4 : c.toInt ≤ 10 := h4
          refine s_ek_bk 2 (P := 22) (ls' := [(0, .ref 0), (1, .int a), (2, .int b), (3, .int c)]) (st' := [.int a, .ref 0]) (M' := s_M0) rfl ?_
          refine s_ek_call (ν := s_e176.1) (P := 25) (as := [.ref 0, .int a]) (r := []) (fun _ => rfl) rfl ?_
          show s_Ek (s_rows 3 L xs) 1298 s_e176.1 0 [(0, .ref 0), (1, .int a)] [] s_M0 _
          refine s_ek_bk 1 (P := 1) (ls' := [(0, .ref 0), (1, .int a)]) (st' := [.int a]) (M' := s_M0) rfl ?_
          refine s_ek_if1 (T := 22) rfl rfl (fun h5 => ?_) (fun h5 => ?_)
          · replace h5 : a.toInt < 0 := h5
            omega
          · replace h5 : ¬ (a.toInt < 0) := h5
            replace h5 : 0 ≤ a.toInt := by omega
            refine s_ek_bk 4 (P := 10) (ls' := [(0, .ref 0), (1, .int a)]) (st' := [.int 6, .int a]) (M' := s_M0) rfl ?_
            refine s_ek_if2 (T := 22) rfl rfl (fun h6 => ?_) (fun h6 => ?_)
            · replace h6 : 6 ≤ a.toInt := h6
              omega
            · replace h6 : ¬ (6 ≤ a.toInt) := h6
              replace h6 : a.toInt < 6 := by omega
              refine s_ek_bk 3 (P := 18) (ls' := [(0, .ref 0), (1, .int a)]) (st' := [.int a, .ref 135]) (M' := s_M0) rfl ?_
              rcases s_rg_0_5 (a := a) (by omega) (by omega) with rfl | rfl | rfl | rfl | rfl | rfl
              · refine s_ek_bk 6 (P := 33) (ls' := [(0, .ref 0), (1, .int 0)]) (st' := [.ref 139]) (M' := s_M0) rfl ?_
                refine s_ek_ret (o := some (.ref 139)) (fun _ => rfl) ?_
                show s_Ek (s_rows 3 L xs) 1299 s_e136.1 25 [(0, .ref 0), (1, .int 0), (2, .int b), (3, .int c)] [.ref 139] s_M0 _
                refine s_ek_bk 2 (P := 29) (ls' := [(4, .ref 139), (0, .ref 0), (1, .int 0), (2, .int b), (3, .int c)]) (st' := [.ref 139]) (M' := s_M0) rfl ?_
                refine s_ek_call (ν := s_e84.1) (P := 32) (as := [.ref 139]) (r := []) (fun _ => rfl) rfl ?_
                show s_Ek (s_rows 3 L xs) 1298 s_e84.1 0 [(0, .ref 139)] [] s_M0 _
                refine s_ek_bk 6 (P := 13) (ls' := [(0, .ref 139)]) (st' := [.int 1]) (M' := s_M0) rfl ?_
                refine s_ek_ret (o := some (.int 1)) (fun _ => rfl) ?_
                show s_Ek (s_rows 3 L xs) 1299 s_e136.1 32 [(4, .ref 139), (0, .ref 0), (1, .int 0), (2, .int b), (3, .int c)] [.int 1] s_M0 _
                refine s_ek_bk 2 (P := 36) (ls' := [(4, .ref 139), (0, .ref 0), (1, .int 0), (2, .int b), (3, .int c)]) (st' := [.int 0]) (M' := s_M0) rfl ?_
                refine s_ek_ret (o := some (.int 0)) (fun _ => rfl) ?_
                refine ⟨0, rfl, ?_⟩
                show s_Ek (s_rows 3 L xs) 1299 s_e207.1 0 [(0, .ref 151), (1, .int 0), (2, .int b), (3, .int c)] [] s_M0 _
                refine s_ek_bk 1 (P := 1) (ls' := [(0, .ref 151), (1, .int 0), (2, .int b), (3, .int c)]) (st' := [.int 0]) (M' := s_M0) rfl ?_
                refine s_ek_call (ν := s_e281.1) (P := 4) (as := [.int 0]) (r := []) (fun _ => rfl) rfl ?_
                show s_Ek (s_rows 3 L xs) 1298 s_e281.1 0 [(0, .int 0)] [] s_M0 _
                refine s_ek_bk 3 (P := 3) (ls' := [(0, .int 0)]) (st' := [.int 5, .int 0, .int 0]) (M' := s_M0) rfl ?_
                refine s_ek_call (ν := s_e181.1) (P := 6) (as := [.int 0, .int 0, .int 5]) (r := []) (fun _ => rfl) rfl ?_
                show s_Ek (s_rows 3 L xs) 1297 s_e181.1 0 [(0, .int 0), (1, .int 0), (2, .int 5)] [] s_M0 _
                refine s_ek_bk 8 (P := 15) (ls' := [(0, .int 0), (1, .int 0), (2, .int 5)]) (st' := [.int 1]) (M' := s_M0) rfl ?_
                refine s_ek_ret (o := some (.int 1)) (fun _ => rfl) ?_
                show s_Ek (s_rows 3 L xs) 1298 s_e281.1 6 [(0, .int 0)] [.int 1] s_M0 _
                refine s_ek_ret (o := some (.int 1)) (fun _ => rfl) ?_
                show s_Ek (s_rows 3 L xs) 1299 s_e207.1 4 [(0, .ref 151), (1, .int 0), (2, .int b), (3, .int c)] [.int 1] s_M0 _
                refine s_ek_bk 4 (P := 11) (ls' := [(0, .ref 151), (1, .int 0), (2, .int b), (3, .int c)]) (st' := [.int 10, .int 1, .int c]) (M' := s_M0) rfl ?_
                refine s_ek_call (ν := s_e181.1) (P := 14) (as := [.int c, .int 1, .int 10]) (r := []) (fun _ => rfl) rfl ?_
                show s_Ek (s_rows 3 L xs) 1298 s_e181.1 0 [(0, .int c), (1, .int 1), (2, .int 10)] [] s_M0 _
                refine s_ek_bk 2 (P := 2) (ls' := [(0, .int c), (1, .int 1), (2, .int 10)]) (st' := [.int 1, .int c]) (M' := s_M0) rfl ?_
                refine s_ek_if2 (T := 14) rfl rfl (fun h7 => ?_) (fun h7 => ?_)
                · replace h7 : c.toInt < 1 := h7
                  omega
                · replace h7 : ¬ (c.toInt < 1) := h7
                  replace h7 : 1 ≤ c.toInt := by omega
                  refine s_ek_bk 2 (P := 7) (ls' := [(0, .int c), (1, .int 1), (2, .int 10)]) (st' := [.int 10, .int c]) (M' := s_M0) rfl ?_
                  refine s_ek_if2 (T := 14) rfl rfl (fun h8 => ?_) (fun h8 => ?_)
                  · replace h8 : 10 < c.toInt := h8
                    omega
                  · replace h8 : ¬ (10 < c.toInt) := h8
                    replace h8 : c.toInt ≤ 10 := by omega
                    refine s_ek_bk 2 (P := 15) (ls' := [(0, .int c), (1, .int 1), (2, .int 10)]) (st' := [.int 1]) (M' := s_M0) rfl ?_
                    refine s_ek_ret (o := some (.int 1)) (fun _ => rfl) ?_
                    show s_Ek (s_rows 3 L xs) 1299 s_e207.1 14 [(0, .ref 151), (1, .int 0), (2, .int b), (3, .int c)] [.int 1] s_M0 _
                    refine s_ek_bk 14 (P := 54) (ls' := [(0, .ref 151), (1, .int 0), (2, .int b), (3, .int c)]) (st' := [.int 0]) (M' := s_M0) rfl ?_
                    refine s_ek_ret (o := some (.int 0)) (fun _ => rfl) ?_
                    exact rfl
              · refine s_ek_bk 6 (P := 33) (ls' := [(0, .ref 0), (1, .int 1)]) (st' := [.ref 141]) (M' := s_M0) rfl ?_
                refine s_ek_ret (o := some (.ref 141)) (fun _ => rfl) ?_
                show s_Ek (s_rows 3 L xs) 1299 s_e136.1 25 [(0, .ref 0), (1, .int 1), (2, .int b), (3, .int c)] [.ref 141] s_M0 _
                refine s_ek_bk 2 (P := 29) (ls' := [(4, .ref 141), (0, .ref 0), (1, .int 1), (2, .int b), (3, .int c)]) (st' := [.ref 141]) (M' := s_M0) rfl ?_
                refine s_ek_call (ν := s_e84.1) (P := 32) (as := [.ref 141]) (r := []) (fun _ => rfl) rfl ?_
                show s_Ek (s_rows 3 L xs) 1298 s_e84.1 0 [(0, .ref 141)] [] s_M0 _
                refine s_ek_bk 6 (P := 13) (ls' := [(0, .ref 141)]) (st' := [.int 1]) (M' := s_M0) rfl ?_
                refine s_ek_ret (o := some (.int 1)) (fun _ => rfl) ?_
                show s_Ek (s_rows 3 L xs) 1299 s_e136.1 32 [(4, .ref 141), (0, .ref 0), (1, .int 1), (2, .int b), (3, .int c)] [.int 1] s_M0 _
                refine s_ek_bk 2 (P := 36) (ls' := [(4, .ref 141), (0, .ref 0), (1, .int 1), (2, .int b), (3, .int c)]) (st' := [.int 0]) (M' := s_M0) rfl ?_
                refine s_ek_ret (o := some (.int 0)) (fun _ => rfl) ?_
                refine ⟨0, rfl, ?_⟩
                show s_Ek (s_rows 3 L xs) 1299 s_e207.1 0 [(0, .ref 151), (1, .int 1), (2, .int b), (3, .int c)] [] s_M0 _
                refine s_ek_bk 1 (P := 1) (ls' := [(0, .ref 151), (1, .int 1), (2, .int b), (3, .int c)]) (st' := [.int 1]) (M' := s_M0) rfl ?_
                refine s_ek_call (ν := s_e281.1) (P := 4) (as := [.int 1]) (r := []) (fun _ => rfl) rfl ?_
                show s_Ek (s_rows 3 L xs) 1298 s_e281.1 0 [(0, .int 1)] [] s_M0 _
                refine s_ek_bk 3 (P := 3) (ls' := [(0, .int 1)]) (st' := [.int 5, .int 0, .int 1]) (M' := s_M0) rfl ?_
                refine s_ek_call (ν := s_e181.1) (P := 6) (as := [.int 1, .int 0, .int 5]) (r := []) (fun _ => rfl) rfl ?_
                show s_Ek (s_rows 3 L xs) 1297 s_e181.1 0 [(0, .int 1), (1, .int 0), (2, .int 5)] [] s_M0 _
                refine s_ek_bk 8 (P := 15) (ls' := [(0, .int 1), (1, .int 0), (2, .int 5)]) (st' := [.int 1]) (M' := s_M0) rfl ?_
                refine s_ek_ret (o := some (.int 1)) (fun _ => rfl) ?_
                show s_Ek (s_rows 3 L xs) 1298 s_e281.1 6 [(0, .int 1)] [.int 1] s_M0 _
                refine s_ek_ret (o := some (.int 1)) (fun _ => rfl) ?_
                show s_Ek (s_rows 3 L xs) 1299 s_e207.1 4 [(0, .ref 151), (1, .int 1), (2, .int b), (3, .int c)] [.int 1] s_M0 _
                refine s_ek_bk 4 (P := 11) (ls' := [(0, .ref 151), (1, .int 1), (2, .int b), (3, .int c)]) (st' := [.int 10, .int 1, .int c]) (M' := s_M0) rfl ?_
                refine s_ek_call (ν := s_e181.1) (P := 14) (as := [.int c, .int 1, .int 10]) (r := []) (fun _ => rfl) rfl ?_
                show s_Ek (s_rows 3 L xs) 1298 s_e181.1 0 [(0, .int c), (1, .int 1), (2, .int 10)] [] s_M0 _
                refine s_ek_bk 2 (P := 2) (ls' := [(0, .int c), (1, .int 1), (2, .int 10)]) (st' := [.int 1, .int c]) (M' := s_M0) rfl ?_
                refine s_ek_if2 (T := 14) rfl rfl (fun h7 => ?_) (fun h7 => ?_)
                · replace h7 : c.toInt < 1 := h7
                  omega
                · replace h7 : ¬ (c.toInt < 1) := h7
                  replace h7 : 1 ≤ c.toInt := by omega
                  refine s_ek_bk 2 (P := 7) (ls' := [(0, .int c), (1, .int 1), (2, .int 10)]) (st' := [.int 10, .int c]) (M' := s_M0) rfl ?_
                  refine s_ek_if2 (T := 14) rfl rfl (fun h8 => ?_) (fun h8 => ?_)
                  · replace h8 : 10 < c.toInt := h8
                    omega
                  · replace h8 : ¬ (10 < c.toInt) := h8
                    replace h8 : c.toInt ≤ 10 := by omega
                    refine s_ek_bk 2 (P := 15) (ls' := [(0, .int c), (1, .int 1), (2, .int 10)]) (st' := [.int 1]) (M' := s_M0) rfl ?_
                    refine s_ek_ret (o := some (.int 1)) (fun _ => rfl) ?_
                    show s_Ek (s_rows 3 L xs) 1299 s_e207.1 14 [(0, .ref 151), (1, .int 1), (2, .int b), (3, .int c)] [.int 1] s_M0 _
                    refine s_ek_bk 14 (P := 54) (ls' := [(0, .ref 151), (1, .int 1), (2, .int b), (3, .int c)]) (st' := [.int 0]) (M' := s_M0) rfl ?_
                    refine s_ek_ret (o := some (.int 0)) (fun _ => rfl) ?_
                    exact rfl
              · refine s_ek_bk 6 (P := 33) (ls' := [(0, .ref 0), (1, .int 2)]) (st' := [.ref 143]) (M' := s_M0) rfl ?_
                refine s_ek_ret (o := some (.ref 143)) (fun _ => rfl) ?_
                show s_Ek (s_rows 3 L xs) 1299 s_e136.1 25 [(0, .ref 0), (1, .int 2), (2, .int b), (3, .int c)] [.ref 143] s_M0 _
                refine s_ek_bk 2 (P := 29) (ls' := [(4, .ref 143), (0, .ref 0), (1, .int 2), (2, .int b), (3, .int c)]) (st' := [.ref 143]) (M' := s_M0) rfl ?_
                refine s_ek_call (ν := s_e84.1) (P := 32) (as := [.ref 143]) (r := []) (fun _ => rfl) rfl ?_
                show s_Ek (s_rows 3 L xs) 1298 s_e84.1 0 [(0, .ref 143)] [] s_M0 _
                refine s_ek_bk 6 (P := 13) (ls' := [(0, .ref 143)]) (st' := [.int 1]) (M' := s_M0) rfl ?_
                refine s_ek_ret (o := some (.int 1)) (fun _ => rfl) ?_
                show s_Ek (s_rows 3 L xs) 1299 s_e136.1 32 [(4, .ref 143), (0, .ref 0), (1, .int 2), (2, .int b), (3, .int c)] [.int 1] s_M0 _
                refine s_ek_bk 2 (P := 36) (ls' := [(4, .ref 143), (0, .ref 0), (1, .int 2), (2, .int b), (3, .int c)]) (st' := [.int 0]) (M' := s_M0) rfl ?_
                refine s_ek_ret (o := some (.int 0)) (fun _ => rfl) ?_
                refine ⟨0, rfl, ?_⟩
                show s_Ek (s_rows 3 L xs) 1299 s_e207.1 0 [(0, .ref 151), (1, .int 2), (2, .int b), (3, .int c)] [] s_M0 _
                refine s_ek_bk 1 (P := 1) (ls' := [(0, .ref 151), (1, .int 2), (2, .int b), (3, .int c)]) (st' := [.int 2]) (M' := s_M0) rfl ?_
                refine s_ek_call (ν := s_e281.1) (P := 4) (as := [.int 2]) (r := []) (fun _ => rfl) rfl ?_
                show s_Ek (s_rows 3 L xs) 1298 s_e281.1 0 [(0, .int 2)] [] s_M0 _
                refine s_ek_bk 3 (P := 3) (ls' := [(0, .int 2)]) (st' := [.int 5, .int 0, .int 2]) (M' := s_M0) rfl ?_
                refine s_ek_call (ν := s_e181.1) (P := 6) (as := [.int 2, .int 0, .int 5]) (r := []) (fun _ => rfl) rfl ?_
                show s_Ek (s_rows 3 L xs) 1297 s_e181.1 0 [(0, .int 2), (1, .int 0), (2, .int 5)] [] s_M0 _
                refine s_ek_bk 8 (P := 15) (ls' := [(0, .int 2), (1, .int 0), (2, .int 5)]) (st' := [.int 1]) (M' := s_M0) rfl ?_
                refine s_ek_ret (o := some (.int 1)) (fun _ => rfl) ?_
                show s_Ek (s_rows 3 L xs) 1298 s_e281.1 6 [(0, .int 2)] [.int 1] s_M0 _
                refine s_ek_ret (o := some (.int 1)) (fun _ => rfl) ?_
                show s_Ek (s_rows 3 L xs) 1299 s_e207.1 4 [(0, .ref 151), (1, .int 2), (2, .int b), (3, .int c)] [.int 1] s_M0 _
                refine s_ek_bk 4 (P := 11) (ls' := [(0, .ref 151), (1, .int 2), (2, .int b), (3, .int c)]) (st' := [.int 10, .int 1, .int c]) (M' := s_M0) rfl ?_
                refine s_ek_call (ν := s_e181.1) (P := 14) (as := [.int c, .int 1, .int 10]) (r := []) (fun _ => rfl) rfl ?_
                show s_Ek (s_rows 3 L xs) 1298 s_e181.1 0 [(0, .int c), (1, .int 1), (2, .int 10)] [] s_M0 _
                refine s_ek_bk 2 (P := 2) (ls' := [(0, .int c), (1, .int 1), (2, .int 10)]) (st' := [.int 1, .int c]) (M' := s_M0) rfl ?_
                refine s_ek_if2 (T := 14) rfl rfl (fun h7 => ?_) (fun h7 => ?_)
                · replace h7 : c.toInt < 1 := h7
                  omega
                · replace h7 : ¬ (c.toInt < 1) := h7
                  replace h7 : 1 ≤ c.toInt := by omega
                  refine s_ek_bk 2 (P := 7) (ls' := [(0, .int c), (1, .int 1), (2, .int 10)]) (st' := [.int 10, .int c]) (M' := s_M0) rfl ?_
                  refine s_ek_if2 (T := 14) rfl rfl (fun h8 => ?_) (fun h8 => ?_)
                  · replace h8 : 10 < c.toInt := h8
                    omega
                  · replace h8 : ¬ (10 < c.toInt) := h8
                    replace h8 : c.toInt ≤ 10 := by omega
                    refine s_ek_bk 2 (P := 15) (ls' := [(0, .int c), (1, .int 1), (2, .int 10)]) (st' := [.int 1]) (M' := s_M0) rfl ?_
                    refine s_ek_ret (o := some (.int 1)) (fun _ => rfl) ?_
                    show s_Ek (s_rows 3 L xs) 1299 s_e207.1 14 [(0, .ref 151), (1, .int 2), (2, .int b), (3, .int c)] [.int 1] s_M0 _
                    refine s_ek_bk 14 (P := 54) (ls' := [(0, .ref 151), (1, .int 2), (2, .int b), (3, .int c)]) (st' := [.int 0]) (M' := s_M0) rfl ?_
                    refine s_ek_ret (o := some (.int 0)) (fun _ => rfl) ?_
                    exact rfl
              · refine s_ek_bk 6 (P := 33) (ls' := [(0, .ref 0), (1, .int 3)]) (st' := [.ref 145]) (M' := s_M0) rfl ?_
                refine s_ek_ret (o := some (.ref 145)) (fun _ => rfl) ?_
                show s_Ek (s_rows 3 L xs) 1299 s_e136.1 25 [(0, .ref 0), (1, .int 3), (2, .int b), (3, .int c)] [.ref 145] s_M0 _
                refine s_ek_bk 2 (P := 29) (ls' := [(4, .ref 145), (0, .ref 0), (1, .int 3), (2, .int b), (3, .int c)]) (st' := [.ref 145]) (M' := s_M0) rfl ?_
                refine s_ek_call (ν := s_e84.1) (P := 32) (as := [.ref 145]) (r := []) (fun _ => rfl) rfl ?_
                show s_Ek (s_rows 3 L xs) 1298 s_e84.1 0 [(0, .ref 145)] [] s_M0 _
                refine s_ek_bk 6 (P := 13) (ls' := [(0, .ref 145)]) (st' := [.int 1]) (M' := s_M0) rfl ?_
                refine s_ek_ret (o := some (.int 1)) (fun _ => rfl) ?_
                show s_Ek (s_rows 3 L xs) 1299 s_e136.1 32 [(4, .ref 145), (0, .ref 0), (1, .int 3), (2, .int b), (3, .int c)] [.int 1] s_M0 _
                refine s_ek_bk 2 (P := 36) (ls' := [(4, .ref 145), (0, .ref 0), (1, .int 3), (2, .int b), (3, .int c)]) (st' := [.int 0]) (M' := s_M0) rfl ?_
                refine s_ek_ret (o := some (.int 0)) (fun _ => rfl) ?_
                refine ⟨0, rfl, ?_⟩
                show s_Ek (s_rows 3 L xs) 1299 s_e207.1 0 [(0, .ref 151), (1, .int 3), (2, .int b), (3, .int c)] [] s_M0 _
                refine s_ek_bk 1 (P := 1) (ls' := [(0, .ref 151), (1, .int 3), (2, .int b), (3, .int c)]) (st' := [.int 3]) (M' := s_M0) rfl ?_
                refine s_ek_call (ν := s_e281.1) (P := 4) (as := [.int 3]) (r := []) (fun _ => rfl) rfl ?_
                show s_Ek (s_rows 3 L xs) 1298 s_e281.1 0 [(0, .int 3)] [] s_M0 _
                refine s_ek_bk 3 (P := 3) (ls' := [(0, .int 3)]) (st' := [.int 5, .int 0, .int 3]) (M' := s_M0) rfl ?_
                refine s_ek_call (ν := s_e181.1) (P := 6) (as := [.int 3, .int 0, .int 5]) (r := []) (fun _ => rfl) rfl ?_
                show s_Ek (s_rows 3 L xs) 1297 s_e181.1 0 [(0, .int 3), (1, .int 0), (2, .int 5)] [] s_M0 _
                refine s_ek_bk 8 (P := 15) (ls' := [(0, .int 3), (1, .int 0), (2, .int 5)]) (st' := [.int 1]) (M' := s_M0) rfl ?_
                refine s_ek_ret (o := some (.int 1)) (fun _ => rfl) ?_
                show s_Ek (s_rows 3 L xs) 1298 s_e281.1 6 [(0, .int 3)] [.int 1] s_M0 _
                refine s_ek_ret (o := some (.int 1)) (fun _ => rfl) ?_
                show s_Ek (s_rows 3 L xs) 1299 s_e207.1 4 [(0, .ref 151), (1, .int 3), (2, .int b), (3, .int c)] [.int 1] s_M0 _
                refine s_ek_bk 4 (P := 11) (ls' := [(0, .ref 151), (1, .int 3), (2, .int b), (3, .int c)]) (st' := [.int 10, .int 1, .int c]) (M' := s_M0) rfl ?_
                refine s_ek_call (ν := s_e181.1) (P := 14) (as := [.int c, .int 1, .int 10]) (r := []) (fun _ => rfl) rfl ?_
                show s_Ek (s_rows 3 L xs) 1298 s_e181.1 0 [(0, .int c), (1, .int 1), (2, .int 10)] [] s_M0 _
                refine s_ek_bk 2 (P := 2) (ls' := [(0, .int c), (1, .int 1), (2, .int 10)]) (st' := [.int 1, .int c]) (M' := s_M0) rfl ?_
                refine s_ek_if2 (T := 14) rfl rfl (fun h7 => ?_) (fun h7 => ?_)
                · replace h7 : c.toInt < 1 := h7
                  omega
                · replace h7 : ¬ (c.toInt < 1) := h7
                  replace h7 : 1 ≤ c.toInt := by omega
                  refine s_ek_bk 2 (P := 7) (ls' := [(0, .int c), (1, .int 1), (2, .int 10)]) (st' := [.int 10, .int c]) (M' := s_M0) rfl ?_
                  refine s_ek_if2 (T := 14) rfl rfl (fun h8 => ?_) (fun h8 => ?_)
                  · replace h8 : 10 < c.toInt := h8
                    omega
                  · replace h8 : ¬ (10 < c.toInt) := h8
                    replace h8 : c.toInt ≤ 10 := by omega
                    refine s_ek_bk 2 (P := 15) (ls' := [(0, .int c), (1, .int 1), (2, .int 10)]) (st' := [.int 1]) (M' := s_M0) rfl ?_
                    refine s_ek_ret (o := some (.int 1)) (fun _ => rfl) ?_
                    show s_Ek (s_rows 3 L xs) 1299 s_e207.1 14 [(0, .ref 151), (1, .int 3), (2, .int b), (3, .int c)] [.int 1] s_M0 _
                    refine s_ek_bk 14 (P := 54) (ls' := [(0, .ref 151), (1, .int 3), (2, .int b), (3, .int c)]) (st' := [.int 0]) (M' := s_M0) rfl ?_
                    refine s_ek_ret (o := some (.int 0)) (fun _ => rfl) ?_
                    exact rfl
              · refine s_ek_bk 6 (P := 33) (ls' := [(0, .ref 0), (1, .int 4)]) (st' := [.ref 147]) (M' := s_M0) rfl ?_
                refine s_ek_ret (o := some (.ref 147)) (fun _ => rfl) ?_
                show s_Ek (s_rows 3 L xs) 1299 s_e136.1 25 [(0, .ref 0), (1, .int 4), (2, .int b), (3, .int c)] [.ref 147] s_M0 _
                refine s_ek_bk 2 (P := 29) (ls' := [(4, .ref 147), (0, .ref 0), (1, .int 4), (2, .int b), (3, .int c)]) (st' := [.ref 147]) (M' := s_M0) rfl ?_
                refine s_ek_call (ν := s_e84.1) (P := 32) (as := [.ref 147]) (r := []) (fun _ => rfl) rfl ?_
                show s_Ek (s_rows 3 L xs) 1298 s_e84.1 0 [(0, .ref 147)] [] s_M0 _
                refine s_ek_bk 6 (P := 13) (ls' := [(0, .ref 147)]) (st' := [.int 1]) (M' := s_M0) rfl ?_
                refine s_ek_ret (o := some (.int 1)) (fun _ => rfl) ?_
                show s_Ek (s_rows 3 L xs) 1299 s_e136.1 32 [(4, .ref 147), (0, .ref 0), (1, .int 4), (2, .int b), (3, .int c)] [.int 1] s_M0 _
                refine s_ek_bk 2 (P := 36) (ls' := [(4, .ref 147), (0, .ref 0), (1, .int 4), (2, .int b), (3, .int c)]) (st' := [.int 0]) (M' := s_M0) rfl ?_
                refine s_ek_ret (o := some (.int 0)) (fun _ => rfl) ?_
                refine ⟨0, rfl, ?_⟩
                show s_Ek (s_rows 3 L xs) 1299 s_e207.1 0 [(0, .ref 151), (1, .int 4), (2, .int b), (3, .int c)] [] s_M0 _
                refine s_ek_bk 1 (P := 1) (ls' := [(0, .ref 151), (1, .int 4), (2, .int b), (3, .int c)]) (st' := [.int 4]) (M' := s_M0) rfl ?_
                refine s_ek_call (ν := s_e281.1) (P := 4) (as := [.int 4]) (r := []) (fun _ => rfl) rfl ?_
                show s_Ek (s_rows 3 L xs) 1298 s_e281.1 0 [(0, .int 4)] [] s_M0 _
                refine s_ek_bk 3 (P := 3) (ls' := [(0, .int 4)]) (st' := [.int 5, .int 0, .int 4]) (M' := s_M0) rfl ?_
                refine s_ek_call (ν := s_e181.1) (P := 6) (as := [.int 4, .int 0, .int 5]) (r := []) (fun _ => rfl) rfl ?_
                show s_Ek (s_rows 3 L xs) 1297 s_e181.1 0 [(0, .int 4), (1, .int 0), (2, .int 5)] [] s_M0 _
                refine s_ek_bk 8 (P := 15) (ls' := [(0, .int 4), (1, .int 0), (2, .int 5)]) (st' := [.int 1]) (M' := s_M0) rfl ?_
                refine s_ek_ret (o := some (.int 1)) (fun _ => rfl) ?_
                show s_Ek (s_rows 3 L xs) 1298 s_e281.1 6 [(0, .int 4)] [.int 1] s_M0 _
                refine s_ek_ret (o := some (.int 1)) (fun _ => rfl) ?_
                show s_Ek (s_rows 3 L xs) 1299 s_e207.1 4 [(0, .ref 151), (1, .int 4), (2, .int b), (3, .int c)] [.int 1] s_M0 _
                refine s_ek_bk 4 (P := 11) (ls' := [(0, .ref 151), (1, .int 4), (2, .int b), (3, .int c)]) (st' := [.int 10, .int 1, .int c]) (M' := s_M0) rfl ?_
                refine s_ek_call (ν := s_e181.1) (P := 14) (as := [.int c, .int 1, .int 10]) (r := []) (fun _ => rfl) rfl ?_
                show s_Ek (s_rows 3 L xs) 1298 s_e181.1 0 [(0, .int c), (1, .int 1), (2, .int 10)] [] s_M0 _
                refine s_ek_bk 2 (P := 2) (ls' := [(0, .int c), (1, .int 1), (2, .int 10)]) (st' := [.int 1, .int c]) (M' := s_M0) rfl ?_
                refine s_ek_if2 (T := 14) rfl rfl (fun h7 => ?_) (fun h7 => ?_)
                · replace h7 : c.toInt < 1 := h7
                  omega
                · replace h7 : ¬ (c.toInt < 1) := h7
                  replace h7 : 1 ≤ c.toInt := by omega
                  refine s_ek_bk 2 (P := 7) (ls' := [(0, .int c), (1, .int 1), (2, .int 10)]) (st' := [.int 10, .int c]) (M' := s_M0) rfl ?_
                  refine s_ek_if2 (T := 14) rfl rfl (fun h8 => ?_) (fun h8 => ?_)
                  · replace h8 : 10 < c.toInt := h8
                    omega
                  · replace h8 : ¬ (10 < c.toInt) := h8
                    replace h8 : c.toInt ≤ 10 := by omega
                    refine s_ek_bk 2 (P := 15) (ls' := [(0, .int c), (1, .int 1), (2, .int 10)]) (st' := [.int 1]) (M' := s_M0) rfl ?_
                    refine s_ek_ret (o := some (.int 1)) (fun _ => rfl) ?_
                    show s_Ek (s_rows 3 L xs) 1299 s_e207.1 14 [(0, .ref 151), (1, .int 4), (2, .int b), (3, .int c)] [.int 1] s_M0 _
                    refine s_ek_bk 14 (P := 54) (ls' := [(0, .ref 151), (1, .int 4), (2, .int b), (3, .int c)]) (st' := [.int 0]) (M' := s_M0) rfl ?_
                    refine s_ek_ret (o := some (.int 0)) (fun _ => rfl) ?_
                    exact rfl
              · refine s_ek_bk 6 (P := 33) (ls' := [(0, .ref 0), (1, .int 5)]) (st' := [.ref 149]) (M' := s_M0) rfl ?_
                refine s_ek_ret (o := some (.ref 149)) (fun _ => rfl) ?_
                show s_Ek (s_rows 3 L xs) 1299 s_e136.1 25 [(0, .ref 0), (1, .int 5), (2, .int b), (3, .int c)] [.ref 149] s_M0 _
                refine s_ek_bk 2 (P := 29) (ls' := [(4, .ref 149), (0, .ref 0), (1, .int 5), (2, .int b), (3, .int c)]) (st' := [.ref 149]) (M' := s_M0) rfl ?_
                refine s_ek_call (ν := s_e84.1) (P := 32) (as := [.ref 149]) (r := []) (fun _ => rfl) rfl ?_
                show s_Ek (s_rows 3 L xs) 1298 s_e84.1 0 [(0, .ref 149)] [] s_M0 _
                refine s_ek_bk 6 (P := 13) (ls' := [(0, .ref 149)]) (st' := [.int 1]) (M' := s_M0) rfl ?_
                refine s_ek_ret (o := some (.int 1)) (fun _ => rfl) ?_
                show s_Ek (s_rows 3 L xs) 1299 s_e136.1 32 [(4, .ref 149), (0, .ref 0), (1, .int 5), (2, .int b), (3, .int c)] [.int 1] s_M0 _
                refine s_ek_bk 2 (P := 36) (ls' := [(4, .ref 149), (0, .ref 0), (1, .int 5), (2, .int b), (3, .int c)]) (st' := [.int 0]) (M' := s_M0) rfl ?_
                refine s_ek_ret (o := some (.int 0)) (fun _ => rfl) ?_
                refine ⟨0, rfl, ?_⟩
                show s_Ek (s_rows 3 L xs) 1299 s_e207.1 0 [(0, .ref 151), (1, .int 5), (2, .int b), (3, .int c)] [] s_M0 _
                refine s_ek_bk 1 (P := 1) (ls' := [(0, .ref 151), (1, .int 5), (2, .int b), (3, .int c)]) (st' := [.int 5]) (M' := s_M0) rfl ?_
                refine s_ek_call (ν := s_e281.1) (P := 4) (as := [.int 5]) (r := []) (fun _ => rfl) rfl ?_
                show s_Ek (s_rows 3 L xs) 1298 s_e281.1 0 [(0, .int 5)] [] s_M0 _
                refine s_ek_bk 3 (P := 3) (ls' := [(0, .int 5)]) (st' := [.int 5, .int 0, .int 5]) (M' := s_M0) rfl ?_
                refine s_ek_call (ν := s_e181.1) (P := 6) (as := [.int 5, .int 0, .int 5]) (r := []) (fun _ => rfl) rfl ?_
                show s_Ek (s_rows 3 L xs) 1297 s_e181.1 0 [(0, .int 5), (1, .int 0), (2, .int 5)] [] s_M0 _
                refine s_ek_bk 8 (P := 15) (ls' := [(0, .int 5), (1, .int 0), (2, .int 5)]) (st' := [.int 1]) (M' := s_M0) rfl ?_
                refine s_ek_ret (o := some (.int 1)) (fun _ => rfl) ?_
                show s_Ek (s_rows 3 L xs) 1298 s_e281.1 6 [(0, .int 5)] [.int 1] s_M0 _
                refine s_ek_ret (o := some (.int 1)) (fun _ => rfl) ?_
                show s_Ek (s_rows 3 L xs) 1299 s_e207.1 4 [(0, .ref 151), (1, .int 5), (2, .int b), (3, .int c)] [.int 1] s_M0 _
                refine s_ek_bk 4 (P := 11) (ls' := [(0, .ref 151), (1, .int 5), (2, .int b), (3, .int c)]) (st' := [.int 10, .int 1, .int c]) (M' := s_M0) rfl ?_
                refine s_ek_call (ν := s_e181.1) (P := 14) (as := [.int c, .int 1, .int 10]) (r := []) (fun _ => rfl) rfl ?_
                show s_Ek (s_rows 3 L xs) 1298 s_e181.1 0 [(0, .int c), (1, .int 1), (2, .int 10)] [] s_M0 _
                refine s_ek_bk 2 (P := 2) (ls' := [(0, .int c), (1, .int 1), (2, .int 10)]) (st' := [.int 1, .int c]) (M' := s_M0) rfl ?_
                refine s_ek_if2 (T := 14) rfl rfl (fun h7 => ?_) (fun h7 => ?_)
                · replace h7 : c.toInt < 1 := h7
                  omega
                · replace h7 : ¬ (c.toInt < 1) := h7
                  replace h7 : 1 ≤ c.toInt := by omega
                  refine s_ek_bk 2 (P := 7) (ls' := [(0, .int c), (1, .int 1), (2, .int 10)]) (st' := [.int 10, .int c]) (M' := s_M0) rfl ?_
                  refine s_ek_if2 (T := 14) rfl rfl (fun h8 => ?_) (fun h8 => ?_)
                  · replace h8 : 10 < c.toInt := h8
                    omega
                  · replace h8 : ¬ (10 < c.toInt) := h8
                    replace h8 : c.toInt ≤ 10 := by omega
                    refine s_ek_bk 2 (P := 15) (ls' := [(0, .int c), (1, .int 1), (2, .int 10)]) (st' := [.int 1]) (M' := s_M0) rfl ?_
                    refine s_ek_ret (o := some (.int 1)) (fun _ => rfl) ?_
                    show s_Ek (s_rows 3 L xs) 1299 s_e207.1 14 [(0, .ref 151), (1, .int 5), (2, .int b), (3, .int c)] [.int 1] s_M0 _
                    refine s_ek_bk 14 (P := 54) (ls' := [(0, .ref 151), (1, .int 5), (2, .int b), (3, .int c)]) (st' := [.int 0]) (M' := s_M0) rfl ?_
                    refine s_ek_ret (o := some (.int 0)) (fun _ => rfl) ?_
                    exact rfl
        · replace h4 : ¬ (c.toInt ≤ 10) := h4
          replace h4 : 10 < c.toInt := by omega
          refine s_ek_bk 1 (P := 19) (ls' := [(0, .ref 0), (1, .int a), (2, .int b), (3, .int c)]) (st' := [.int (-1)]) (M' := s_M0) rfl ?_
          refine s_ek_ret (o := some (.int (-1))) (fun _ => rfl) ?_
          refine ⟨(-1), rfl, ?_⟩
          show s_Ek (s_rows 3 L xs) 1299 s_e207.1 0 [(0, .ref 151), (1, .int a), (2, .int b), (3, .int c)] [] s_M0 _
          refine s_ek_bk 1 (P := 1) (ls' := [(0, .ref 151), (1, .int a), (2, .int b), (3, .int c)]) (st' := [.int a]) (M' := s_M0) rfl ?_
          refine s_ek_call (ν := s_e281.1) (P := 4) (as := [.int a]) (r := []) (fun _ => rfl) rfl ?_
          show s_Ek (s_rows 3 L xs) 1298 s_e281.1 0 [(0, .int a)] [] s_M0 _
          refine s_ek_bk 3 (P := 3) (ls' := [(0, .int a)]) (st' := [.int 5, .int 0, .int a]) (M' := s_M0) rfl ?_
          refine s_ek_call (ν := s_e181.1) (P := 6) (as := [.int a, .int 0, .int 5]) (r := []) (fun _ => rfl) rfl ?_
          show s_Ek (s_rows 3 L xs) 1297 s_e181.1 0 [(0, .int a), (1, .int 0), (2, .int 5)] [] s_M0 _
          refine s_ek_bk 2 (P := 2) (ls' := [(0, .int a), (1, .int 0), (2, .int 5)]) (st' := [.int 0, .int a]) (M' := s_M0) rfl ?_
          refine s_ek_if2 (T := 14) rfl rfl (fun h5 => ?_) (fun h5 => ?_)
          · replace h5 : a.toInt < 0 := h5
            omega
          · replace h5 : ¬ (a.toInt < 0) := h5
            replace h5 : 0 ≤ a.toInt := by omega
            refine s_ek_bk 2 (P := 7) (ls' := [(0, .int a), (1, .int 0), (2, .int 5)]) (st' := [.int 5, .int a]) (M' := s_M0) rfl ?_
            refine s_ek_if2 (T := 14) rfl rfl (fun h6 => ?_) (fun h6 => ?_)
            · replace h6 : 5 < a.toInt := h6
              omega
            · replace h6 : ¬ (5 < a.toInt) := h6
              replace h6 : a.toInt ≤ 5 := by omega
              refine s_ek_bk 2 (P := 15) (ls' := [(0, .int a), (1, .int 0), (2, .int 5)]) (st' := [.int 1]) (M' := s_M0) rfl ?_
              refine s_ek_ret (o := some (.int 1)) (fun _ => rfl) ?_
              show s_Ek (s_rows 3 L xs) 1298 s_e281.1 6 [(0, .int a)] [.int 1] s_M0 _
              refine s_ek_ret (o := some (.int 1)) (fun _ => rfl) ?_
              show s_Ek (s_rows 3 L xs) 1299 s_e207.1 4 [(0, .ref 151), (1, .int a), (2, .int b), (3, .int c)] [.int 1] s_M0 _
              refine s_ek_bk 4 (P := 11) (ls' := [(0, .ref 151), (1, .int a), (2, .int b), (3, .int c)]) (st' := [.int 10, .int 1, .int c]) (M' := s_M0) rfl ?_
              refine s_ek_call (ν := s_e181.1) (P := 14) (as := [.int c, .int 1, .int 10]) (r := []) (fun _ => rfl) rfl ?_
              show s_Ek (s_rows 3 L xs) 1298 s_e181.1 0 [(0, .int c), (1, .int 1), (2, .int 10)] [] s_M0 _
              refine s_ek_bk 2 (P := 2) (ls' := [(0, .int c), (1, .int 1), (2, .int 10)]) (st' := [.int 1, .int c]) (M' := s_M0) rfl ?_
              refine s_ek_if2 (T := 14) rfl rfl (fun h7 => ?_) (fun h7 => ?_)
              · replace h7 : c.toInt < 1 := h7
                omega
              · replace h7 : ¬ (c.toInt < 1) := h7
                replace h7 : 1 ≤ c.toInt := by omega
                refine s_ek_bk 2 (P := 7) (ls' := [(0, .int c), (1, .int 1), (2, .int 10)]) (st' := [.int 10, .int c]) (M' := s_M0) rfl ?_
                refine s_ek_if2 (T := 14) rfl rfl (fun h8 => ?_) (fun h8 => ?_)
                · replace h8 : 10 < c.toInt := h8
                  refine s_ek_bk 1 (P := 15) (ls' := [(0, .int c), (1, .int 1), (2, .int 10)]) (st' := [.int 0]) (M' := s_M0) rfl ?_
                  refine s_ek_ret (o := some (.int 0)) (fun _ => rfl) ?_
                  show s_Ek (s_rows 3 L xs) 1299 s_e207.1 14 [(0, .ref 151), (1, .int a), (2, .int b), (3, .int c)] [.int 0] s_M0 _
                  refine s_ek_bk 2 (P := 18) (ls' := [(0, .ref 151), (1, .int a), (2, .int b), (3, .int c)]) (st' := [.int (-1)]) (M' := s_M0) rfl ?_
                  refine s_ek_ret (o := some (.int (-1))) (fun _ => rfl) ?_
                  exact rfl
                · replace h8 : ¬ (10 < c.toInt) := h8
                  replace h8 : c.toInt ≤ 10 := by omega
                  omega
set_option maxHeartbeats 20000000 in
set_option maxRecDepth 100000 in
theorem s_op_speaks (L : Nat) (xs : Nat → Int32) (a : Int32) (b : Int32) : s_Ek (s_rows 3 L xs) 1299 s_e143.1 0 (lv_args 0 [.ref 0, .int a, .int b]) [] s_M0 (fun v M1 => ∃ r : Int32, v = some (.int r) ∧ s_Ek (s_rows 3 L xs) 1299 s_e234.1 0 (lv_args 0 [.ref 151, .int a, .int b]) [] M1 (fun w _ => w = some (.int r))) := by
  show s_Ek (s_rows 3 L xs) 1299 s_e143.1 0 [(0, .ref 0), (1, .int a), (2, .int b)] [] s_M0 _
  refine s_ek_bk 1 (P := 1) (ls' := [(0, .ref 0), (1, .int a), (2, .int b)]) (st' := [.int b]) (M' := s_M0) rfl ?_
  refine s_ek_call (ν := s_e2.1) (P := 4) (as := [.int b]) (r := []) (fun _ => rfl) rfl ?_
  show s_Ek (s_rows 3 L xs) 1298 s_e2.1 0 [(0, .int b)] [] s_M0 _
  refine s_ek_bk 1 (P := 1) (ls' := [(0, .int b)]) (st' := [.int b]) (M' := s_M0) rfl ?_
  refine s_ek_if1 (T := 30) rfl rfl (fun h1 => ?_) (fun h1 => ?_)
  · replace h1 : b.toInt < 0 := h1
    refine s_ek_bk 1 (P := 31) (ls' := [(0, .int b)]) (st' := [.int (-1)]) (M' := s_M0) rfl ?_
    refine s_ek_ret (o := some (.int (-1))) (fun _ => rfl) ?_
    show s_Ek (s_rows 3 L xs) 1299 s_e143.1 4 [(0, .ref 0), (1, .int a), (2, .int b)] [.int (-1)] s_M0 _
    refine s_ek_bk 4 (P := 10) (ls' := [(3, .int (-1)), (0, .ref 0), (1, .int a), (2, .int b)]) (st' := [.int a, .ref 8]) (M' := s_M0) rfl ?_
    refine s_ek_call (ν := s_e40.1) (P := 13) (as := [.ref 8, .int a]) (r := []) (fun _ => rfl) rfl ?_
    show s_Ek (s_rows 3 L xs) 1298 s_e40.1 0 [(0, .ref 8), (1, .int a)] [] s_M0 _
    refine s_ek_bk 1 (P := 1) (ls' := [(0, .ref 8), (1, .int a)]) (st' := [.int a]) (M' := s_M0) rfl ?_
    refine s_ek_if1 (T := 16) rfl rfl (fun h2 => ?_) (fun h2 => ?_)
    · replace h2 : a.toInt < 0 := h2
      refine s_ek_bk 1 (P := 17) (ls' := [(0, .ref 8), (1, .int a)]) (st' := [.int 0]) (M' := s_M0) rfl ?_
      refine s_ek_ret (o := some (.int 0)) (fun _ => rfl) ?_
      show s_Ek (s_rows 3 L xs) 1299 s_e143.1 13 [(3, .int (-1)), (0, .ref 0), (1, .int a), (2, .int b)] [.int 0] s_M0 _
      refine s_ek_bk 2 (P := 21) (ls' := [(3, .int (-1)), (0, .ref 0), (1, .int a), (2, .int b)]) (st' := [.int (-1)]) (M' := s_M0) rfl ?_
      refine s_ek_ret (o := some (.int (-1))) (fun _ => rfl) ?_
      refine ⟨(-1), rfl, ?_⟩
      show s_Ek (s_rows 3 L xs) 1299 s_e234.1 0 [(0, .ref 151), (1, .int a), (2, .int b)] [] s_M0 _
      refine s_ek_bk 2 (P := 2) (ls' := [(0, .ref 151), (1, .int a), (2, .int b)]) (st' := [.int a, .ref 151]) (M' := s_M0) rfl ?_
      refine s_ek_call (ν := s_e201.1) (P := 5) (as := [.ref 151, .int a]) (r := []) (fun _ => rfl) rfl ?_
      show s_Ek (s_rows 3 L xs) 1298 s_e201.1 0 [(0, .ref 151), (1, .int a)] [] s_M0 _
      refine s_ek_bk 6 (P := 8) (ls' := [(0, .ref 151), (1, .int a)]) (st' := [.int (-1), .int 0, .int a]) (M' := s_M0) rfl ?_
      refine s_ek_call (ν := s_e181.1) (P := 11) (as := [.int a, .int 0, .int (-1)]) (r := []) (fun _ => rfl) rfl ?_
      show s_Ek (s_rows 3 L xs) 1297 s_e181.1 0 [(0, .int a), (1, .int 0), (2, .int (-1))] [] s_M0 _
      refine s_ek_bk 2 (P := 2) (ls' := [(0, .int a), (1, .int 0), (2, .int (-1))]) (st' := [.int 0, .int a]) (M' := s_M0) rfl ?_
      refine s_ek_if2 (T := 14) rfl rfl (fun h3 => ?_) (fun h3 => ?_)
      · replace h3 : a.toInt < 0 := h3
        refine s_ek_bk 1 (P := 15) (ls' := [(0, .int a), (1, .int 0), (2, .int (-1))]) (st' := [.int 0]) (M' := s_M0) rfl ?_
        refine s_ek_ret (o := some (.int 0)) (fun _ => rfl) ?_
        show s_Ek (s_rows 3 L xs) 1298 s_e201.1 11 [(0, .ref 151), (1, .int a)] [.int 0] s_M0 _
        refine s_ek_ret (o := some (.int 0)) (fun _ => rfl) ?_
        show s_Ek (s_rows 3 L xs) 1299 s_e234.1 5 [(0, .ref 151), (1, .int a), (2, .int b)] [.int 0] s_M0 _
        refine s_ek_bk 2 (P := 16) (ls' := [(0, .ref 151), (1, .int a), (2, .int b)]) (st' := [.int (-1)]) (M' := s_M0) rfl ?_
        refine s_ek_ret (o := some (.int (-1))) (fun _ => rfl) ?_
        exact rfl
      · replace h3 : ¬ (a.toInt < 0) := h3
        replace h3 : 0 ≤ a.toInt := by omega
        omega
    · replace h2 : ¬ (a.toInt < 0) := h2
      replace h2 : 0 ≤ a.toInt := by omega
      refine s_ek_bk 3 (P := 9) (ls' := [(0, .ref 8), (1, .int a)]) (st' := [.int 0, .int a]) (M' := s_M0) rfl ?_
      refine s_ek_if2 (T := 16) rfl rfl (fun h3 => ?_) (fun h3 => ?_)
      · replace h3 : 0 ≤ a.toInt := h3
        refine s_ek_bk 1 (P := 17) (ls' := [(0, .ref 8), (1, .int a)]) (st' := [.int 0]) (M' := s_M0) rfl ?_
        refine s_ek_ret (o := some (.int 0)) (fun _ => rfl) ?_
        show s_Ek (s_rows 3 L xs) 1299 s_e143.1 13 [(3, .int (-1)), (0, .ref 0), (1, .int a), (2, .int b)] [.int 0] s_M0 _
        refine s_ek_bk 2 (P := 21) (ls' := [(3, .int (-1)), (0, .ref 0), (1, .int a), (2, .int b)]) (st' := [.int (-1)]) (M' := s_M0) rfl ?_
        refine s_ek_ret (o := some (.int (-1))) (fun _ => rfl) ?_
        refine ⟨(-1), rfl, ?_⟩
        show s_Ek (s_rows 3 L xs) 1299 s_e234.1 0 [(0, .ref 151), (1, .int a), (2, .int b)] [] s_M0 _
        refine s_ek_bk 2 (P := 2) (ls' := [(0, .ref 151), (1, .int a), (2, .int b)]) (st' := [.int a, .ref 151]) (M' := s_M0) rfl ?_
        refine s_ek_call (ν := s_e201.1) (P := 5) (as := [.ref 151, .int a]) (r := []) (fun _ => rfl) rfl ?_
        show s_Ek (s_rows 3 L xs) 1298 s_e201.1 0 [(0, .ref 151), (1, .int a)] [] s_M0 _
        refine s_ek_bk 6 (P := 8) (ls' := [(0, .ref 151), (1, .int a)]) (st' := [.int (-1), .int 0, .int a]) (M' := s_M0) rfl ?_
        refine s_ek_call (ν := s_e181.1) (P := 11) (as := [.int a, .int 0, .int (-1)]) (r := []) (fun _ => rfl) rfl ?_
        show s_Ek (s_rows 3 L xs) 1297 s_e181.1 0 [(0, .int a), (1, .int 0), (2, .int (-1))] [] s_M0 _
        refine s_ek_bk 2 (P := 2) (ls' := [(0, .int a), (1, .int 0), (2, .int (-1))]) (st' := [.int 0, .int a]) (M' := s_M0) rfl ?_
        refine s_ek_if2 (T := 14) rfl rfl (fun h4 => ?_) (fun h4 => ?_)
        · replace h4 : a.toInt < 0 := h4
          omega
        · replace h4 : ¬ (a.toInt < 0) := h4
          replace h4 : 0 ≤ a.toInt := by omega
          refine s_ek_bk 2 (P := 7) (ls' := [(0, .int a), (1, .int 0), (2, .int (-1))]) (st' := [.int (-1), .int a]) (M' := s_M0) rfl ?_
          refine s_ek_if2 (T := 14) rfl rfl (fun h5 => ?_) (fun h5 => ?_)
          · replace h5 : (-1) < a.toInt := h5
            refine s_ek_bk 1 (P := 15) (ls' := [(0, .int a), (1, .int 0), (2, .int (-1))]) (st' := [.int 0]) (M' := s_M0) rfl ?_
            refine s_ek_ret (o := some (.int 0)) (fun _ => rfl) ?_
            show s_Ek (s_rows 3 L xs) 1298 s_e201.1 11 [(0, .ref 151), (1, .int a)] [.int 0] s_M0 _
            refine s_ek_ret (o := some (.int 0)) (fun _ => rfl) ?_
            show s_Ek (s_rows 3 L xs) 1299 s_e234.1 5 [(0, .ref 151), (1, .int a), (2, .int b)] [.int 0] s_M0 _
            refine s_ek_bk 2 (P := 16) (ls' := [(0, .ref 151), (1, .int a), (2, .int b)]) (st' := [.int (-1)]) (M' := s_M0) rfl ?_
            refine s_ek_ret (o := some (.int (-1))) (fun _ => rfl) ?_
            exact rfl
          · replace h5 : ¬ ((-1) < a.toInt) := h5
            replace h5 : a.toInt ≤ (-1) := by omega
            omega
      · replace h3 : ¬ (0 ≤ a.toInt) := h3
        replace h3 : a.toInt < 0 := by omega
        omega
  · replace h1 : ¬ (b.toInt < 0) := h1
    replace h1 : 0 ≤ b.toInt := by omega
    refine s_ek_bk 2 (P := 8) (ls' := [(0, .int b)]) (st' := [.int 444, .int b]) (M' := s_M0) rfl ?_
    refine s_ek_if2 (T := 30) rfl rfl (fun h2 => ?_) (fun h2 => ?_)
    · replace h2 : 444 < b.toInt := h2
      refine s_ek_bk 1 (P := 31) (ls' := [(0, .int b)]) (st' := [.int (-1)]) (M' := s_M0) rfl ?_
      refine s_ek_ret (o := some (.int (-1))) (fun _ => rfl) ?_
      show s_Ek (s_rows 3 L xs) 1299 s_e143.1 4 [(0, .ref 0), (1, .int a), (2, .int b)] [.int (-1)] s_M0 _
      refine s_ek_bk 4 (P := 10) (ls' := [(3, .int (-1)), (0, .ref 0), (1, .int a), (2, .int b)]) (st' := [.int a, .ref 8]) (M' := s_M0) rfl ?_
      refine s_ek_call (ν := s_e40.1) (P := 13) (as := [.ref 8, .int a]) (r := []) (fun _ => rfl) rfl ?_
      show s_Ek (s_rows 3 L xs) 1298 s_e40.1 0 [(0, .ref 8), (1, .int a)] [] s_M0 _
      refine s_ek_bk 1 (P := 1) (ls' := [(0, .ref 8), (1, .int a)]) (st' := [.int a]) (M' := s_M0) rfl ?_
      refine s_ek_if1 (T := 16) rfl rfl (fun h3 => ?_) (fun h3 => ?_)
      · replace h3 : a.toInt < 0 := h3
        refine s_ek_bk 1 (P := 17) (ls' := [(0, .ref 8), (1, .int a)]) (st' := [.int 0]) (M' := s_M0) rfl ?_
        refine s_ek_ret (o := some (.int 0)) (fun _ => rfl) ?_
        show s_Ek (s_rows 3 L xs) 1299 s_e143.1 13 [(3, .int (-1)), (0, .ref 0), (1, .int a), (2, .int b)] [.int 0] s_M0 _
        refine s_ek_bk 2 (P := 21) (ls' := [(3, .int (-1)), (0, .ref 0), (1, .int a), (2, .int b)]) (st' := [.int (-1)]) (M' := s_M0) rfl ?_
        refine s_ek_ret (o := some (.int (-1))) (fun _ => rfl) ?_
        refine ⟨(-1), rfl, ?_⟩
        show s_Ek (s_rows 3 L xs) 1299 s_e234.1 0 [(0, .ref 151), (1, .int a), (2, .int b)] [] s_M0 _
        refine s_ek_bk 2 (P := 2) (ls' := [(0, .ref 151), (1, .int a), (2, .int b)]) (st' := [.int a, .ref 151]) (M' := s_M0) rfl ?_
        refine s_ek_call (ν := s_e201.1) (P := 5) (as := [.ref 151, .int a]) (r := []) (fun _ => rfl) rfl ?_
        show s_Ek (s_rows 3 L xs) 1298 s_e201.1 0 [(0, .ref 151), (1, .int a)] [] s_M0 _
        refine s_ek_bk 6 (P := 8) (ls' := [(0, .ref 151), (1, .int a)]) (st' := [.int (-1), .int 0, .int a]) (M' := s_M0) rfl ?_
        refine s_ek_call (ν := s_e181.1) (P := 11) (as := [.int a, .int 0, .int (-1)]) (r := []) (fun _ => rfl) rfl ?_
        show s_Ek (s_rows 3 L xs) 1297 s_e181.1 0 [(0, .int a), (1, .int 0), (2, .int (-1))] [] s_M0 _
        refine s_ek_bk 2 (P := 2) (ls' := [(0, .int a), (1, .int 0), (2, .int (-1))]) (st' := [.int 0, .int a]) (M' := s_M0) rfl ?_
        refine s_ek_if2 (T := 14) rfl rfl (fun h4 => ?_) (fun h4 => ?_)
        · replace h4 : a.toInt < 0 := h4
          refine s_ek_bk 1 (P := 15) (ls' := [(0, .int a), (1, .int 0), (2, .int (-1))]) (st' := [.int 0]) (M' := s_M0) rfl ?_
          refine s_ek_ret (o := some (.int 0)) (fun _ => rfl) ?_
          show s_Ek (s_rows 3 L xs) 1298 s_e201.1 11 [(0, .ref 151), (1, .int a)] [.int 0] s_M0 _
          refine s_ek_ret (o := some (.int 0)) (fun _ => rfl) ?_
          show s_Ek (s_rows 3 L xs) 1299 s_e234.1 5 [(0, .ref 151), (1, .int a), (2, .int b)] [.int 0] s_M0 _
          refine s_ek_bk 2 (P := 16) (ls' := [(0, .ref 151), (1, .int a), (2, .int b)]) (st' := [.int (-1)]) (M' := s_M0) rfl ?_
          refine s_ek_ret (o := some (.int (-1))) (fun _ => rfl) ?_
          exact rfl
        · replace h4 : ¬ (a.toInt < 0) := h4
          replace h4 : 0 ≤ a.toInt := by omega
          omega
      · replace h3 : ¬ (a.toInt < 0) := h3
        replace h3 : 0 ≤ a.toInt := by omega
        refine s_ek_bk 3 (P := 9) (ls' := [(0, .ref 8), (1, .int a)]) (st' := [.int 0, .int a]) (M' := s_M0) rfl ?_
        refine s_ek_if2 (T := 16) rfl rfl (fun h4 => ?_) (fun h4 => ?_)
        · replace h4 : 0 ≤ a.toInt := h4
          refine s_ek_bk 1 (P := 17) (ls' := [(0, .ref 8), (1, .int a)]) (st' := [.int 0]) (M' := s_M0) rfl ?_
          refine s_ek_ret (o := some (.int 0)) (fun _ => rfl) ?_
          show s_Ek (s_rows 3 L xs) 1299 s_e143.1 13 [(3, .int (-1)), (0, .ref 0), (1, .int a), (2, .int b)] [.int 0] s_M0 _
          refine s_ek_bk 2 (P := 21) (ls' := [(3, .int (-1)), (0, .ref 0), (1, .int a), (2, .int b)]) (st' := [.int (-1)]) (M' := s_M0) rfl ?_
          refine s_ek_ret (o := some (.int (-1))) (fun _ => rfl) ?_
          refine ⟨(-1), rfl, ?_⟩
          show s_Ek (s_rows 3 L xs) 1299 s_e234.1 0 [(0, .ref 151), (1, .int a), (2, .int b)] [] s_M0 _
          refine s_ek_bk 2 (P := 2) (ls' := [(0, .ref 151), (1, .int a), (2, .int b)]) (st' := [.int a, .ref 151]) (M' := s_M0) rfl ?_
          refine s_ek_call (ν := s_e201.1) (P := 5) (as := [.ref 151, .int a]) (r := []) (fun _ => rfl) rfl ?_
          show s_Ek (s_rows 3 L xs) 1298 s_e201.1 0 [(0, .ref 151), (1, .int a)] [] s_M0 _
          refine s_ek_bk 6 (P := 8) (ls' := [(0, .ref 151), (1, .int a)]) (st' := [.int (-1), .int 0, .int a]) (M' := s_M0) rfl ?_
          refine s_ek_call (ν := s_e181.1) (P := 11) (as := [.int a, .int 0, .int (-1)]) (r := []) (fun _ => rfl) rfl ?_
          show s_Ek (s_rows 3 L xs) 1297 s_e181.1 0 [(0, .int a), (1, .int 0), (2, .int (-1))] [] s_M0 _
          refine s_ek_bk 2 (P := 2) (ls' := [(0, .int a), (1, .int 0), (2, .int (-1))]) (st' := [.int 0, .int a]) (M' := s_M0) rfl ?_
          refine s_ek_if2 (T := 14) rfl rfl (fun h5 => ?_) (fun h5 => ?_)
          · replace h5 : a.toInt < 0 := h5
            omega
          · replace h5 : ¬ (a.toInt < 0) := h5
            replace h5 : 0 ≤ a.toInt := by omega
            refine s_ek_bk 2 (P := 7) (ls' := [(0, .int a), (1, .int 0), (2, .int (-1))]) (st' := [.int (-1), .int a]) (M' := s_M0) rfl ?_
            refine s_ek_if2 (T := 14) rfl rfl (fun h6 => ?_) (fun h6 => ?_)
            · replace h6 : (-1) < a.toInt := h6
              refine s_ek_bk 1 (P := 15) (ls' := [(0, .int a), (1, .int 0), (2, .int (-1))]) (st' := [.int 0]) (M' := s_M0) rfl ?_
              refine s_ek_ret (o := some (.int 0)) (fun _ => rfl) ?_
              show s_Ek (s_rows 3 L xs) 1298 s_e201.1 11 [(0, .ref 151), (1, .int a)] [.int 0] s_M0 _
              refine s_ek_ret (o := some (.int 0)) (fun _ => rfl) ?_
              show s_Ek (s_rows 3 L xs) 1299 s_e234.1 5 [(0, .ref 151), (1, .int a), (2, .int b)] [.int 0] s_M0 _
              refine s_ek_bk 2 (P := 16) (ls' := [(0, .ref 151), (1, .int a), (2, .int b)]) (st' := [.int (-1)]) (M' := s_M0) rfl ?_
              refine s_ek_ret (o := some (.int (-1))) (fun _ => rfl) ?_
              exact rfl
            · replace h6 : ¬ ((-1) < a.toInt) := h6
              replace h6 : a.toInt ≤ (-1) := by omega
              omega
        · replace h4 : ¬ (0 ≤ a.toInt) := h4
          replace h4 : a.toInt < 0 := by omega
          omega
    · replace h2 : ¬ (444 < b.toInt) := h2
      replace h2 : b.toInt ≤ 444 := by omega
      refine s_ek_bk 6 (P := 19) (ls' := [(0, .int b)]) (st' := [.int 4, .int ((b / 10) - (b / 10) / 10 * 10)]) (M' := s_M0) rfl ?_
      refine s_ek_if2 (T := 30) rfl rfl (fun h3 => ?_) (fun h3 => ?_)
      · replace h3 : 4 < ((b / 10) - (b / 10) / 10 * 10).toInt := h3
        refine s_ek_bk 1 (P := 31) (ls' := [(0, .int b)]) (st' := [.int (-1)]) (M' := s_M0) rfl ?_
        refine s_ek_ret (o := some (.int (-1))) (fun _ => rfl) ?_
        show s_Ek (s_rows 3 L xs) 1299 s_e143.1 4 [(0, .ref 0), (1, .int a), (2, .int b)] [.int (-1)] s_M0 _
        refine s_ek_bk 4 (P := 10) (ls' := [(3, .int (-1)), (0, .ref 0), (1, .int a), (2, .int b)]) (st' := [.int a, .ref 8]) (M' := s_M0) rfl ?_
        refine s_ek_call (ν := s_e40.1) (P := 13) (as := [.ref 8, .int a]) (r := []) (fun _ => rfl) rfl ?_
        show s_Ek (s_rows 3 L xs) 1298 s_e40.1 0 [(0, .ref 8), (1, .int a)] [] s_M0 _
        refine s_ek_bk 1 (P := 1) (ls' := [(0, .ref 8), (1, .int a)]) (st' := [.int a]) (M' := s_M0) rfl ?_
        refine s_ek_if1 (T := 16) rfl rfl (fun h4 => ?_) (fun h4 => ?_)
        · replace h4 : a.toInt < 0 := h4
          refine s_ek_bk 1 (P := 17) (ls' := [(0, .ref 8), (1, .int a)]) (st' := [.int 0]) (M' := s_M0) rfl ?_
          refine s_ek_ret (o := some (.int 0)) (fun _ => rfl) ?_
          show s_Ek (s_rows 3 L xs) 1299 s_e143.1 13 [(3, .int (-1)), (0, .ref 0), (1, .int a), (2, .int b)] [.int 0] s_M0 _
          refine s_ek_bk 2 (P := 21) (ls' := [(3, .int (-1)), (0, .ref 0), (1, .int a), (2, .int b)]) (st' := [.int (-1)]) (M' := s_M0) rfl ?_
          refine s_ek_ret (o := some (.int (-1))) (fun _ => rfl) ?_
          refine ⟨(-1), rfl, ?_⟩
          show s_Ek (s_rows 3 L xs) 1299 s_e234.1 0 [(0, .ref 151), (1, .int a), (2, .int b)] [] s_M0 _
          refine s_ek_bk 2 (P := 2) (ls' := [(0, .ref 151), (1, .int a), (2, .int b)]) (st' := [.int a, .ref 151]) (M' := s_M0) rfl ?_
          refine s_ek_call (ν := s_e201.1) (P := 5) (as := [.ref 151, .int a]) (r := []) (fun _ => rfl) rfl ?_
          show s_Ek (s_rows 3 L xs) 1298 s_e201.1 0 [(0, .ref 151), (1, .int a)] [] s_M0 _
          refine s_ek_bk 6 (P := 8) (ls' := [(0, .ref 151), (1, .int a)]) (st' := [.int (-1), .int 0, .int a]) (M' := s_M0) rfl ?_
          refine s_ek_call (ν := s_e181.1) (P := 11) (as := [.int a, .int 0, .int (-1)]) (r := []) (fun _ => rfl) rfl ?_
          show s_Ek (s_rows 3 L xs) 1297 s_e181.1 0 [(0, .int a), (1, .int 0), (2, .int (-1))] [] s_M0 _
          refine s_ek_bk 2 (P := 2) (ls' := [(0, .int a), (1, .int 0), (2, .int (-1))]) (st' := [.int 0, .int a]) (M' := s_M0) rfl ?_
          refine s_ek_if2 (T := 14) rfl rfl (fun h5 => ?_) (fun h5 => ?_)
          · replace h5 : a.toInt < 0 := h5
            refine s_ek_bk 1 (P := 15) (ls' := [(0, .int a), (1, .int 0), (2, .int (-1))]) (st' := [.int 0]) (M' := s_M0) rfl ?_
            refine s_ek_ret (o := some (.int 0)) (fun _ => rfl) ?_
            show s_Ek (s_rows 3 L xs) 1298 s_e201.1 11 [(0, .ref 151), (1, .int a)] [.int 0] s_M0 _
            refine s_ek_ret (o := some (.int 0)) (fun _ => rfl) ?_
            show s_Ek (s_rows 3 L xs) 1299 s_e234.1 5 [(0, .ref 151), (1, .int a), (2, .int b)] [.int 0] s_M0 _
            refine s_ek_bk 2 (P := 16) (ls' := [(0, .ref 151), (1, .int a), (2, .int b)]) (st' := [.int (-1)]) (M' := s_M0) rfl ?_
            refine s_ek_ret (o := some (.int (-1))) (fun _ => rfl) ?_
            exact rfl
          · replace h5 : ¬ (a.toInt < 0) := h5
            replace h5 : 0 ≤ a.toInt := by omega
            omega
        · replace h4 : ¬ (a.toInt < 0) := h4
          replace h4 : 0 ≤ a.toInt := by omega
          refine s_ek_bk 3 (P := 9) (ls' := [(0, .ref 8), (1, .int a)]) (st' := [.int 0, .int a]) (M' := s_M0) rfl ?_
          refine s_ek_if2 (T := 16) rfl rfl (fun h5 => ?_) (fun h5 => ?_)
          · replace h5 : 0 ≤ a.toInt := h5
            refine s_ek_bk 1 (P := 17) (ls' := [(0, .ref 8), (1, .int a)]) (st' := [.int 0]) (M' := s_M0) rfl ?_
            refine s_ek_ret (o := some (.int 0)) (fun _ => rfl) ?_
            show s_Ek (s_rows 3 L xs) 1299 s_e143.1 13 [(3, .int (-1)), (0, .ref 0), (1, .int a), (2, .int b)] [.int 0] s_M0 _
            refine s_ek_bk 2 (P := 21) (ls' := [(3, .int (-1)), (0, .ref 0), (1, .int a), (2, .int b)]) (st' := [.int (-1)]) (M' := s_M0) rfl ?_
            refine s_ek_ret (o := some (.int (-1))) (fun _ => rfl) ?_
            refine ⟨(-1), rfl, ?_⟩
            show s_Ek (s_rows 3 L xs) 1299 s_e234.1 0 [(0, .ref 151), (1, .int a), (2, .int b)] [] s_M0 _
            refine s_ek_bk 2 (P := 2) (ls' := [(0, .ref 151), (1, .int a), (2, .int b)]) (st' := [.int a, .ref 151]) (M' := s_M0) rfl ?_
            refine s_ek_call (ν := s_e201.1) (P := 5) (as := [.ref 151, .int a]) (r := []) (fun _ => rfl) rfl ?_
            show s_Ek (s_rows 3 L xs) 1298 s_e201.1 0 [(0, .ref 151), (1, .int a)] [] s_M0 _
            refine s_ek_bk 6 (P := 8) (ls' := [(0, .ref 151), (1, .int a)]) (st' := [.int (-1), .int 0, .int a]) (M' := s_M0) rfl ?_
            refine s_ek_call (ν := s_e181.1) (P := 11) (as := [.int a, .int 0, .int (-1)]) (r := []) (fun _ => rfl) rfl ?_
            show s_Ek (s_rows 3 L xs) 1297 s_e181.1 0 [(0, .int a), (1, .int 0), (2, .int (-1))] [] s_M0 _
            refine s_ek_bk 2 (P := 2) (ls' := [(0, .int a), (1, .int 0), (2, .int (-1))]) (st' := [.int 0, .int a]) (M' := s_M0) rfl ?_
            refine s_ek_if2 (T := 14) rfl rfl (fun h6 => ?_) (fun h6 => ?_)
            · replace h6 : a.toInt < 0 := h6
              omega
            · replace h6 : ¬ (a.toInt < 0) := h6
              replace h6 : 0 ≤ a.toInt := by omega
              refine s_ek_bk 2 (P := 7) (ls' := [(0, .int a), (1, .int 0), (2, .int (-1))]) (st' := [.int (-1), .int a]) (M' := s_M0) rfl ?_
              refine s_ek_if2 (T := 14) rfl rfl (fun h7 => ?_) (fun h7 => ?_)
              · replace h7 : (-1) < a.toInt := h7
                refine s_ek_bk 1 (P := 15) (ls' := [(0, .int a), (1, .int 0), (2, .int (-1))]) (st' := [.int 0]) (M' := s_M0) rfl ?_
                refine s_ek_ret (o := some (.int 0)) (fun _ => rfl) ?_
                show s_Ek (s_rows 3 L xs) 1298 s_e201.1 11 [(0, .ref 151), (1, .int a)] [.int 0] s_M0 _
                refine s_ek_ret (o := some (.int 0)) (fun _ => rfl) ?_
                show s_Ek (s_rows 3 L xs) 1299 s_e234.1 5 [(0, .ref 151), (1, .int a), (2, .int b)] [.int 0] s_M0 _
                refine s_ek_bk 2 (P := 16) (ls' := [(0, .ref 151), (1, .int a), (2, .int b)]) (st' := [.int (-1)]) (M' := s_M0) rfl ?_
                refine s_ek_ret (o := some (.int (-1))) (fun _ => rfl) ?_
                exact rfl
              · replace h7 : ¬ ((-1) < a.toInt) := h7
                replace h7 : a.toInt ≤ (-1) := by omega
                omega
          · replace h5 : ¬ (0 ≤ a.toInt) := h5
            replace h5 : a.toInt < 0 := by omega
            omega
      · replace h3 : ¬ (4 < ((b / 10) - (b / 10) / 10 * 10).toInt) := h3
        replace h3 : ((b / 10) - (b / 10) / 10 * 10).toInt ≤ 4 := by omega
        refine s_ek_bk 4 (P := 27) (ls' := [(0, .int b)]) (st' := [.int 4, .int (b - b / 10 * 10)]) (M' := s_M0) rfl ?_
        refine s_ek_if2 (T := 32) rfl rfl (fun h4 => ?_) (fun h4 => ?_)
        · replace h4 : (b - b / 10 * 10).toInt ≤ 4 := h4
          refine s_ek_bk 17 (P := 54) (ls' := [(0, .int b)]) (st' := [.int ((((b / 100) * 25) + (((b / 10) - (b / 10) / 10 * 10) * 5)) + (b - b / 10 * 10))]) (M' := s_M0) rfl ?_
          refine s_ek_ret (o := some (.int ((((b / 100) * 25) + (((b / 10) - (b / 10) / 10 * 10) * 5)) + (b - b / 10 * 10)))) (fun _ => rfl) ?_
          show s_Ek (s_rows 3 L xs) 1299 s_e143.1 4 [(0, .ref 0), (1, .int a), (2, .int b)] [.int ((((b / 100) * 25) + (((b / 10) - (b / 10) / 10 * 10) * 5)) + (b - b / 10 * 10))] s_M0 _
          refine s_ek_bk 4 (P := 10) (ls' := [(3, .int ((((b / 100) * 25) + (((b / 10) - (b / 10) / 10 * 10) * 5)) + (b - b / 10 * 10))), (0, .ref 0), (1, .int a), (2, .int b)]) (st' := [.int a, .ref 8]) (M' := s_M0) rfl ?_
          refine s_ek_call (ν := s_e40.1) (P := 13) (as := [.ref 8, .int a]) (r := []) (fun _ => rfl) rfl ?_
          show s_Ek (s_rows 3 L xs) 1298 s_e40.1 0 [(0, .ref 8), (1, .int a)] [] s_M0 _
          refine s_ek_bk 1 (P := 1) (ls' := [(0, .ref 8), (1, .int a)]) (st' := [.int a]) (M' := s_M0) rfl ?_
          refine s_ek_if1 (T := 16) rfl rfl (fun h5 => ?_) (fun h5 => ?_)
          · replace h5 : a.toInt < 0 := h5
            refine s_ek_bk 1 (P := 17) (ls' := [(0, .ref 8), (1, .int a)]) (st' := [.int 0]) (M' := s_M0) rfl ?_
            refine s_ek_ret (o := some (.int 0)) (fun _ => rfl) ?_
            show s_Ek (s_rows 3 L xs) 1299 s_e143.1 13 [(3, .int ((((b / 100) * 25) + (((b / 10) - (b / 10) / 10 * 10) * 5)) + (b - b / 10 * 10))), (0, .ref 0), (1, .int a), (2, .int b)] [.int 0] s_M0 _
            refine s_ek_bk 2 (P := 21) (ls' := [(3, .int ((((b / 100) * 25) + (((b / 10) - (b / 10) / 10 * 10) * 5)) + (b - b / 10 * 10))), (0, .ref 0), (1, .int a), (2, .int b)]) (st' := [.int (-1)]) (M' := s_M0) rfl ?_
            refine s_ek_ret (o := some (.int (-1))) (fun _ => rfl) ?_
            refine ⟨(-1), rfl, ?_⟩
            show s_Ek (s_rows 3 L xs) 1299 s_e234.1 0 [(0, .ref 151), (1, .int a), (2, .int b)] [] s_M0 _
            refine s_ek_bk 2 (P := 2) (ls' := [(0, .ref 151), (1, .int a), (2, .int b)]) (st' := [.int a, .ref 151]) (M' := s_M0) rfl ?_
            refine s_ek_call (ν := s_e201.1) (P := 5) (as := [.ref 151, .int a]) (r := []) (fun _ => rfl) rfl ?_
            show s_Ek (s_rows 3 L xs) 1298 s_e201.1 0 [(0, .ref 151), (1, .int a)] [] s_M0 _
            refine s_ek_bk 6 (P := 8) (ls' := [(0, .ref 151), (1, .int a)]) (st' := [.int (-1), .int 0, .int a]) (M' := s_M0) rfl ?_
            refine s_ek_call (ν := s_e181.1) (P := 11) (as := [.int a, .int 0, .int (-1)]) (r := []) (fun _ => rfl) rfl ?_
            show s_Ek (s_rows 3 L xs) 1297 s_e181.1 0 [(0, .int a), (1, .int 0), (2, .int (-1))] [] s_M0 _
            refine s_ek_bk 2 (P := 2) (ls' := [(0, .int a), (1, .int 0), (2, .int (-1))]) (st' := [.int 0, .int a]) (M' := s_M0) rfl ?_
            refine s_ek_if2 (T := 14) rfl rfl (fun h6 => ?_) (fun h6 => ?_)
            · replace h6 : a.toInt < 0 := h6
              refine s_ek_bk 1 (P := 15) (ls' := [(0, .int a), (1, .int 0), (2, .int (-1))]) (st' := [.int 0]) (M' := s_M0) rfl ?_
              refine s_ek_ret (o := some (.int 0)) (fun _ => rfl) ?_
              show s_Ek (s_rows 3 L xs) 1298 s_e201.1 11 [(0, .ref 151), (1, .int a)] [.int 0] s_M0 _
              refine s_ek_ret (o := some (.int 0)) (fun _ => rfl) ?_
              show s_Ek (s_rows 3 L xs) 1299 s_e234.1 5 [(0, .ref 151), (1, .int a), (2, .int b)] [.int 0] s_M0 _
              refine s_ek_bk 2 (P := 16) (ls' := [(0, .ref 151), (1, .int a), (2, .int b)]) (st' := [.int (-1)]) (M' := s_M0) rfl ?_
              refine s_ek_ret (o := some (.int (-1))) (fun _ => rfl) ?_
              exact rfl
            · replace h6 : ¬ (a.toInt < 0) := h6
              replace h6 : 0 ≤ a.toInt := by omega
              omega
          · replace h5 : ¬ (a.toInt < 0) := h5
            replace h5 : 0 ≤ a.toInt := by omega
            refine s_ek_bk 3 (P := 9) (ls' := [(0, .ref 8), (1, .int a)]) (st' := [.int 0, .int a]) (M' := s_M0) rfl ?_
            refine s_ek_if2 (T := 16) rfl rfl (fun h6 => ?_) (fun h6 => ?_)
            · replace h6 : 0 ≤ a.toInt := h6
              refine s_ek_bk 1 (P := 17) (ls' := [(0, .ref 8), (1, .int a)]) (st' := [.int 0]) (M' := s_M0) rfl ?_
              refine s_ek_ret (o := some (.int 0)) (fun _ => rfl) ?_
              show s_Ek (s_rows 3 L xs) 1299 s_e143.1 13 [(3, .int ((((b / 100) * 25) + (((b / 10) - (b / 10) / 10 * 10) * 5)) + (b - b / 10 * 10))), (0, .ref 0), (1, .int a), (2, .int b)] [.int 0] s_M0 _
              refine s_ek_bk 2 (P := 21) (ls' := [(3, .int ((((b / 100) * 25) + (((b / 10) - (b / 10) / 10 * 10) * 5)) + (b - b / 10 * 10))), (0, .ref 0), (1, .int a), (2, .int b)]) (st' := [.int (-1)]) (M' := s_M0) rfl ?_
              refine s_ek_ret (o := some (.int (-1))) (fun _ => rfl) ?_
              refine ⟨(-1), rfl, ?_⟩
              show s_Ek (s_rows 3 L xs) 1299 s_e234.1 0 [(0, .ref 151), (1, .int a), (2, .int b)] [] s_M0 _
              refine s_ek_bk 2 (P := 2) (ls' := [(0, .ref 151), (1, .int a), (2, .int b)]) (st' := [.int a, .ref 151]) (M' := s_M0) rfl ?_
              refine s_ek_call (ν := s_e201.1) (P := 5) (as := [.ref 151, .int a]) (r := []) (fun _ => rfl) rfl ?_
              show s_Ek (s_rows 3 L xs) 1298 s_e201.1 0 [(0, .ref 151), (1, .int a)] [] s_M0 _
              refine s_ek_bk 6 (P := 8) (ls' := [(0, .ref 151), (1, .int a)]) (st' := [.int (-1), .int 0, .int a]) (M' := s_M0) rfl ?_
              refine s_ek_call (ν := s_e181.1) (P := 11) (as := [.int a, .int 0, .int (-1)]) (r := []) (fun _ => rfl) rfl ?_
              show s_Ek (s_rows 3 L xs) 1297 s_e181.1 0 [(0, .int a), (1, .int 0), (2, .int (-1))] [] s_M0 _
              refine s_ek_bk 2 (P := 2) (ls' := [(0, .int a), (1, .int 0), (2, .int (-1))]) (st' := [.int 0, .int a]) (M' := s_M0) rfl ?_
              refine s_ek_if2 (T := 14) rfl rfl (fun h7 => ?_) (fun h7 => ?_)
              · replace h7 : a.toInt < 0 := h7
                omega
              · replace h7 : ¬ (a.toInt < 0) := h7
                replace h7 : 0 ≤ a.toInt := by omega
                refine s_ek_bk 2 (P := 7) (ls' := [(0, .int a), (1, .int 0), (2, .int (-1))]) (st' := [.int (-1), .int a]) (M' := s_M0) rfl ?_
                refine s_ek_if2 (T := 14) rfl rfl (fun h8 => ?_) (fun h8 => ?_)
                · replace h8 : (-1) < a.toInt := h8
                  refine s_ek_bk 1 (P := 15) (ls' := [(0, .int a), (1, .int 0), (2, .int (-1))]) (st' := [.int 0]) (M' := s_M0) rfl ?_
                  refine s_ek_ret (o := some (.int 0)) (fun _ => rfl) ?_
                  show s_Ek (s_rows 3 L xs) 1298 s_e201.1 11 [(0, .ref 151), (1, .int a)] [.int 0] s_M0 _
                  refine s_ek_ret (o := some (.int 0)) (fun _ => rfl) ?_
                  show s_Ek (s_rows 3 L xs) 1299 s_e234.1 5 [(0, .ref 151), (1, .int a), (2, .int b)] [.int 0] s_M0 _
                  refine s_ek_bk 2 (P := 16) (ls' := [(0, .ref 151), (1, .int a), (2, .int b)]) (st' := [.int (-1)]) (M' := s_M0) rfl ?_
                  refine s_ek_ret (o := some (.int (-1))) (fun _ => rfl) ?_
                  exact rfl
                · replace h8 : ¬ ((-1) < a.toInt) := h8
                  replace h8 : a.toInt ≤ (-1) := by omega
                  omega
            · replace h6 : ¬ (0 ≤ a.toInt) := h6
              replace h6 : a.toInt < 0 := by omega
              omega
        · replace h4 : ¬ ((b - b / 10 * 10).toInt ≤ 4) := h4
          replace h4 : 4 < (b - b / 10 * 10).toInt := by omega
          refine s_ek_bk 1 (P := 31) (ls' := [(0, .int b)]) (st' := [.int (-1)]) (M' := s_M0) rfl ?_
          refine s_ek_ret (o := some (.int (-1))) (fun _ => rfl) ?_
          show s_Ek (s_rows 3 L xs) 1299 s_e143.1 4 [(0, .ref 0), (1, .int a), (2, .int b)] [.int (-1)] s_M0 _
          refine s_ek_bk 4 (P := 10) (ls' := [(3, .int (-1)), (0, .ref 0), (1, .int a), (2, .int b)]) (st' := [.int a, .ref 8]) (M' := s_M0) rfl ?_
          refine s_ek_call (ν := s_e40.1) (P := 13) (as := [.ref 8, .int a]) (r := []) (fun _ => rfl) rfl ?_
          show s_Ek (s_rows 3 L xs) 1298 s_e40.1 0 [(0, .ref 8), (1, .int a)] [] s_M0 _
          refine s_ek_bk 1 (P := 1) (ls' := [(0, .ref 8), (1, .int a)]) (st' := [.int a]) (M' := s_M0) rfl ?_
          refine s_ek_if1 (T := 16) rfl rfl (fun h5 => ?_) (fun h5 => ?_)
          · replace h5 : a.toInt < 0 := h5
            refine s_ek_bk 1 (P := 17) (ls' := [(0, .ref 8), (1, .int a)]) (st' := [.int 0]) (M' := s_M0) rfl ?_
            refine s_ek_ret (o := some (.int 0)) (fun _ => rfl) ?_
            show s_Ek (s_rows 3 L xs) 1299 s_e143.1 13 [(3, .int (-1)), (0, .ref 0), (1, .int a), (2, .int b)] [.int 0] s_M0 _
            refine s_ek_bk 2 (P := 21) (ls' := [(3, .int (-1)), (0, .ref 0), (1, .int a), (2, .int b)]) (st' := [.int (-1)]) (M' := s_M0) rfl ?_
            refine s_ek_ret (o := some (.int (-1))) (fun _ => rfl) ?_
            refine ⟨(-1), rfl, ?_⟩
            show s_Ek (s_rows 3 L xs) 1299 s_e234.1 0 [(0, .ref 151), (1, .int a), (2, .int b)] [] s_M0 _
            refine s_ek_bk 2 (P := 2) (ls' := [(0, .ref 151), (1, .int a), (2, .int b)]) (st' := [.int a, .ref 151]) (M' := s_M0) rfl ?_
            refine s_ek_call (ν := s_e201.1) (P := 5) (as := [.ref 151, .int a]) (r := []) (fun _ => rfl) rfl ?_
            show s_Ek (s_rows 3 L xs) 1298 s_e201.1 0 [(0, .ref 151), (1, .int a)] [] s_M0 _
            refine s_ek_bk 6 (P := 8) (ls' := [(0, .ref 151), (1, .int a)]) (st' := [.int (-1), .int 0, .int a]) (M' := s_M0) rfl ?_
            refine s_ek_call (ν := s_e181.1) (P := 11) (as := [.int a, .int 0, .int (-1)]) (r := []) (fun _ => rfl) rfl ?_
            show s_Ek (s_rows 3 L xs) 1297 s_e181.1 0 [(0, .int a), (1, .int 0), (2, .int (-1))] [] s_M0 _
            refine s_ek_bk 2 (P := 2) (ls' := [(0, .int a), (1, .int 0), (2, .int (-1))]) (st' := [.int 0, .int a]) (M' := s_M0) rfl ?_
            refine s_ek_if2 (T := 14) rfl rfl (fun h6 => ?_) (fun h6 => ?_)
            · replace h6 : a.toInt < 0 := h6
              refine s_ek_bk 1 (P := 15) (ls' := [(0, .int a), (1, .int 0), (2, .int (-1))]) (st' := [.int 0]) (M' := s_M0) rfl ?_
              refine s_ek_ret (o := some (.int 0)) (fun _ => rfl) ?_
              show s_Ek (s_rows 3 L xs) 1298 s_e201.1 11 [(0, .ref 151), (1, .int a)] [.int 0] s_M0 _
              refine s_ek_ret (o := some (.int 0)) (fun _ => rfl) ?_
              show s_Ek (s_rows 3 L xs) 1299 s_e234.1 5 [(0, .ref 151), (1, .int a), (2, .int b)] [.int 0] s_M0 _
              refine s_ek_bk 2 (P := 16) (ls' := [(0, .ref 151), (1, .int a), (2, .int b)]) (st' := [.int (-1)]) (M' := s_M0) rfl ?_
              refine s_ek_ret (o := some (.int (-1))) (fun _ => rfl) ?_
              exact rfl
            · replace h6 : ¬ (a.toInt < 0) := h6
              replace h6 : 0 ≤ a.toInt := by omega
              omega
          · replace h5 : ¬ (a.toInt < 0) := h5
            replace h5 : 0 ≤ a.toInt := by omega
            refine s_ek_bk 3 (P := 9) (ls' := [(0, .ref 8), (1, .int a)]) (st' := [.int 0, .int a]) (M' := s_M0) rfl ?_
            refine s_ek_if2 (T := 16) rfl rfl (fun h6 => ?_) (fun h6 => ?_)
            · replace h6 : 0 ≤ a.toInt := h6
              refine s_ek_bk 1 (P := 17) (ls' := [(0, .ref 8), (1, .int a)]) (st' := [.int 0]) (M' := s_M0) rfl ?_
              refine s_ek_ret (o := some (.int 0)) (fun _ => rfl) ?_
              show s_Ek (s_rows 3 L xs) 1299 s_e143.1 13 [(3, .int (-1)), (0, .ref 0), (1, .int a), (2, .int b)] [.int 0] s_M0 _
              refine s_ek_bk 2 (P := 21) (ls' := [(3, .int (-1)), (0, .ref 0), (1, .int a), (2, .int b)]) (st' := [.int (-1)]) (M' := s_M0) rfl ?_
              refine s_ek_ret (o := some (.int (-1))) (fun _ => rfl) ?_
              refine ⟨(-1), rfl, ?_⟩
              show s_Ek (s_rows 3 L xs) 1299 s_e234.1 0 [(0, .ref 151), (1, .int a), (2, .int b)] [] s_M0 _
              refine s_ek_bk 2 (P := 2) (ls' := [(0, .ref 151), (1, .int a), (2, .int b)]) (st' := [.int a, .ref 151]) (M' := s_M0) rfl ?_
              refine s_ek_call (ν := s_e201.1) (P := 5) (as := [.ref 151, .int a]) (r := []) (fun _ => rfl) rfl ?_
              show s_Ek (s_rows 3 L xs) 1298 s_e201.1 0 [(0, .ref 151), (1, .int a)] [] s_M0 _
              refine s_ek_bk 6 (P := 8) (ls' := [(0, .ref 151), (1, .int a)]) (st' := [.int (-1), .int 0, .int a]) (M' := s_M0) rfl ?_
              refine s_ek_call (ν := s_e181.1) (P := 11) (as := [.int a, .int 0, .int (-1)]) (r := []) (fun _ => rfl) rfl ?_
              show s_Ek (s_rows 3 L xs) 1297 s_e181.1 0 [(0, .int a), (1, .int 0), (2, .int (-1))] [] s_M0 _
              refine s_ek_bk 2 (P := 2) (ls' := [(0, .int a), (1, .int 0), (2, .int (-1))]) (st' := [.int 0, .int a]) (M' := s_M0) rfl ?_
              refine s_ek_if2 (T := 14) rfl rfl (fun h7 => ?_) (fun h7 => ?_)
              · replace h7 : a.toInt < 0 := h7
                omega
              · replace h7 : ¬ (a.toInt < 0) := h7
                replace h7 : 0 ≤ a.toInt := by omega
                refine s_ek_bk 2 (P := 7) (ls' := [(0, .int a), (1, .int 0), (2, .int (-1))]) (st' := [.int (-1), .int a]) (M' := s_M0) rfl ?_
                refine s_ek_if2 (T := 14) rfl rfl (fun h8 => ?_) (fun h8 => ?_)
                · replace h8 : (-1) < a.toInt := h8
                  refine s_ek_bk 1 (P := 15) (ls' := [(0, .int a), (1, .int 0), (2, .int (-1))]) (st' := [.int 0]) (M' := s_M0) rfl ?_
                  refine s_ek_ret (o := some (.int 0)) (fun _ => rfl) ?_
                  show s_Ek (s_rows 3 L xs) 1298 s_e201.1 11 [(0, .ref 151), (1, .int a)] [.int 0] s_M0 _
                  refine s_ek_ret (o := some (.int 0)) (fun _ => rfl) ?_
                  show s_Ek (s_rows 3 L xs) 1299 s_e234.1 5 [(0, .ref 151), (1, .int a), (2, .int b)] [.int 0] s_M0 _
                  refine s_ek_bk 2 (P := 16) (ls' := [(0, .ref 151), (1, .int a), (2, .int b)]) (st' := [.int (-1)]) (M' := s_M0) rfl ?_
                  refine s_ek_ret (o := some (.int (-1))) (fun _ => rfl) ?_
                  exact rfl
                · replace h8 : ¬ ((-1) < a.toInt) := h8
                  replace h8 : a.toInt ≤ (-1) := by omega
                  omega
            · replace h6 : ¬ (0 ≤ a.toInt) := h6
              replace h6 : a.toInt < 0 := by omega
              omega
set_option maxHeartbeats 20000000 in
set_option maxRecDepth 100000 in
theorem s_op_judge (L : Nat) (xs : Nat → Int32) (a : Int32) : s_Ek (s_rows 3 L xs) 1299 s_e145.1 0 (lv_args 0 [.ref 0, .int a]) [] s_M0 (fun v M1 => ∃ r : Int32, v = some (.int r) ∧ s_Ek (s_rows 3 L xs) 1299 s_e241.1 0 (lv_args 0 [.ref 151, .int a]) [] M1 (fun w _ => w = some (.int r))) := by
  show s_Ek (s_rows 3 L xs) 1299 s_e145.1 0 [(0, .ref 0), (1, .int a)] [] s_M0 _
  refine s_ek_bk 2 (P := 2) (ls' := [(0, .ref 0), (1, .int a)]) (st' := [.int a, .ref 0]) (M' := s_M0) rfl ?_
  refine s_ek_call (ν := s_e177.1) (P := 5) (as := [.ref 0, .int a]) (r := []) (fun _ => rfl) rfl ?_
  show s_Ek (s_rows 3 L xs) 1298 s_e177.1 0 [(0, .ref 0), (1, .int a)] [] s_M0 _
  refine s_ek_bk 1 (P := 1) (ls' := [(0, .ref 0), (1, .int a)]) (st' := [.int a]) (M' := s_M0) rfl ?_
  refine s_ek_call (ν := s_e175.1) (P := 4) (as := [.int a]) (r := []) (fun _ => rfl) rfl ?_
  show s_Ek (s_rows 3 L xs) 1297 s_e175.1 0 [(0, .int a)] [] s_M0 _
  refine s_ek_bk 1 (P := 1) (ls' := [(0, .int a)]) (st' := [.int a]) (M' := s_M0) rfl ?_
  refine s_ek_if1 (T := 14) rfl rfl (fun h1 => ?_) (fun h1 => ?_)
  · replace h1 : a.toInt < 0 := h1
    refine s_ek_bk 1 (P := 15) (ls' := [(0, .int a)]) (st' := [.int 0]) (M' := s_M0) rfl ?_
    refine s_ek_ret (o := some (.int 0)) (fun _ => rfl) ?_
    show s_Ek (s_rows 3 L xs) 1298 s_e177.1 4 [(0, .ref 0), (1, .int a)] [.int 0] s_M0 _
    refine s_ek_bk 2 (P := 8) (ls' := [(0, .ref 0), (1, .int a)]) (st' := [.int (-1)]) (M' := s_M0) rfl ?_
    refine s_ek_ret (o := some (.int (-1))) (fun _ => rfl) ?_
    show s_Ek (s_rows 3 L xs) 1299 s_e145.1 5 [(0, .ref 0), (1, .int a)] [.int (-1)] s_M0 _
    refine s_ek_bk 4 (P := 11) (ls' := [(2, .int (-1)), (0, .ref 0), (1, .int a)]) (st' := [.int (-1)]) (M' := s_M0) rfl ?_
    refine s_ek_ret (o := some (.int (-1))) (fun _ => rfl) ?_
    refine ⟨(-1), rfl, ?_⟩
    show s_Ek (s_rows 3 L xs) 1299 s_e241.1 0 [(0, .ref 151), (1, .int a)] [] s_M0 _
    refine s_ek_bk 1 (P := 1) (ls' := [(0, .ref 151), (1, .int a)]) (st' := [.int a]) (M' := s_M0) rfl ?_
    refine s_ek_call (ν := s_e281.1) (P := 4) (as := [.int a]) (r := []) (fun _ => rfl) rfl ?_
    show s_Ek (s_rows 3 L xs) 1298 s_e281.1 0 [(0, .int a)] [] s_M0 _
    refine s_ek_bk 3 (P := 3) (ls' := [(0, .int a)]) (st' := [.int 5, .int 0, .int a]) (M' := s_M0) rfl ?_
    refine s_ek_call (ν := s_e181.1) (P := 6) (as := [.int a, .int 0, .int 5]) (r := []) (fun _ => rfl) rfl ?_
    show s_Ek (s_rows 3 L xs) 1297 s_e181.1 0 [(0, .int a), (1, .int 0), (2, .int 5)] [] s_M0 _
    refine s_ek_bk 2 (P := 2) (ls' := [(0, .int a), (1, .int 0), (2, .int 5)]) (st' := [.int 0, .int a]) (M' := s_M0) rfl ?_
    refine s_ek_if2 (T := 14) rfl rfl (fun h2 => ?_) (fun h2 => ?_)
    · replace h2 : a.toInt < 0 := h2
      refine s_ek_bk 1 (P := 15) (ls' := [(0, .int a), (1, .int 0), (2, .int 5)]) (st' := [.int 0]) (M' := s_M0) rfl ?_
      refine s_ek_ret (o := some (.int 0)) (fun _ => rfl) ?_
      show s_Ek (s_rows 3 L xs) 1298 s_e281.1 6 [(0, .int a)] [.int 0] s_M0 _
      refine s_ek_ret (o := some (.int 0)) (fun _ => rfl) ?_
      show s_Ek (s_rows 3 L xs) 1299 s_e241.1 4 [(0, .ref 151), (1, .int a)] [.int 0] s_M0 _
      refine s_ek_bk 2 (P := 8) (ls' := [(0, .ref 151), (1, .int a)]) (st' := [.int (-1)]) (M' := s_M0) rfl ?_
      refine s_ek_ret (o := some (.int (-1))) (fun _ => rfl) ?_
      exact rfl
    · replace h2 : ¬ (a.toInt < 0) := h2
      replace h2 : 0 ≤ a.toInt := by omega
      omega
  · replace h1 : ¬ (a.toInt < 0) := h1
    replace h1 : 0 ≤ a.toInt := by omega
    refine s_ek_bk 2 (P := 7) (ls' := [(0, .int a)]) (st' := [.int 6, .int a]) (M' := s_M0) rfl ?_
    refine s_ek_if2 (T := 14) rfl rfl (fun h2 => ?_) (fun h2 => ?_)
    · replace h2 : 6 ≤ a.toInt := h2
      refine s_ek_bk 1 (P := 15) (ls' := [(0, .int a)]) (st' := [.int 0]) (M' := s_M0) rfl ?_
      refine s_ek_ret (o := some (.int 0)) (fun _ => rfl) ?_
      show s_Ek (s_rows 3 L xs) 1298 s_e177.1 4 [(0, .ref 0), (1, .int a)] [.int 0] s_M0 _
      refine s_ek_bk 2 (P := 8) (ls' := [(0, .ref 0), (1, .int a)]) (st' := [.int (-1)]) (M' := s_M0) rfl ?_
      refine s_ek_ret (o := some (.int (-1))) (fun _ => rfl) ?_
      show s_Ek (s_rows 3 L xs) 1299 s_e145.1 5 [(0, .ref 0), (1, .int a)] [.int (-1)] s_M0 _
      refine s_ek_bk 4 (P := 11) (ls' := [(2, .int (-1)), (0, .ref 0), (1, .int a)]) (st' := [.int (-1)]) (M' := s_M0) rfl ?_
      refine s_ek_ret (o := some (.int (-1))) (fun _ => rfl) ?_
      refine ⟨(-1), rfl, ?_⟩
      show s_Ek (s_rows 3 L xs) 1299 s_e241.1 0 [(0, .ref 151), (1, .int a)] [] s_M0 _
      refine s_ek_bk 1 (P := 1) (ls' := [(0, .ref 151), (1, .int a)]) (st' := [.int a]) (M' := s_M0) rfl ?_
      refine s_ek_call (ν := s_e281.1) (P := 4) (as := [.int a]) (r := []) (fun _ => rfl) rfl ?_
      show s_Ek (s_rows 3 L xs) 1298 s_e281.1 0 [(0, .int a)] [] s_M0 _
      refine s_ek_bk 3 (P := 3) (ls' := [(0, .int a)]) (st' := [.int 5, .int 0, .int a]) (M' := s_M0) rfl ?_
      refine s_ek_call (ν := s_e181.1) (P := 6) (as := [.int a, .int 0, .int 5]) (r := []) (fun _ => rfl) rfl ?_
      show s_Ek (s_rows 3 L xs) 1297 s_e181.1 0 [(0, .int a), (1, .int 0), (2, .int 5)] [] s_M0 _
      refine s_ek_bk 2 (P := 2) (ls' := [(0, .int a), (1, .int 0), (2, .int 5)]) (st' := [.int 0, .int a]) (M' := s_M0) rfl ?_
      refine s_ek_if2 (T := 14) rfl rfl (fun h3 => ?_) (fun h3 => ?_)
      · replace h3 : a.toInt < 0 := h3
        omega
      · replace h3 : ¬ (a.toInt < 0) := h3
        replace h3 : 0 ≤ a.toInt := by omega
        refine s_ek_bk 2 (P := 7) (ls' := [(0, .int a), (1, .int 0), (2, .int 5)]) (st' := [.int 5, .int a]) (M' := s_M0) rfl ?_
        refine s_ek_if2 (T := 14) rfl rfl (fun h4 => ?_) (fun h4 => ?_)
        · replace h4 : 5 < a.toInt := h4
          refine s_ek_bk 1 (P := 15) (ls' := [(0, .int a), (1, .int 0), (2, .int 5)]) (st' := [.int 0]) (M' := s_M0) rfl ?_
          refine s_ek_ret (o := some (.int 0)) (fun _ => rfl) ?_
          show s_Ek (s_rows 3 L xs) 1298 s_e281.1 6 [(0, .int a)] [.int 0] s_M0 _
          refine s_ek_ret (o := some (.int 0)) (fun _ => rfl) ?_
          show s_Ek (s_rows 3 L xs) 1299 s_e241.1 4 [(0, .ref 151), (1, .int a)] [.int 0] s_M0 _
          refine s_ek_bk 2 (P := 8) (ls' := [(0, .ref 151), (1, .int a)]) (st' := [.int (-1)]) (M' := s_M0) rfl ?_
          refine s_ek_ret (o := some (.int (-1))) (fun _ => rfl) ?_
          exact rfl
        · replace h4 : ¬ (5 < a.toInt) := h4
          replace h4 : a.toInt ≤ 5 := by omega
          omega
    · replace h2 : ¬ (6 ≤ a.toInt) := h2
      replace h2 : a.toInt < 6 := by omega
      refine s_ek_bk 2 (P := 15) (ls' := [(0, .int a)]) (st' := [.int 1]) (M' := s_M0) rfl ?_
      refine s_ek_ret (o := some (.int 1)) (fun _ => rfl) ?_
      show s_Ek (s_rows 3 L xs) 1298 s_e177.1 4 [(0, .ref 0), (1, .int a)] [.int 1] s_M0 _
      refine s_ek_bk 3 (P := 11) (ls' := [(0, .ref 0), (1, .int a)]) (st' := [.int a, .ref 0]) (M' := s_M0) rfl ?_
      refine s_ek_call (ν := s_e176.1) (P := 14) (as := [.ref 0, .int a]) (r := []) (fun _ => rfl) rfl ?_
      show s_Ek (s_rows 3 L xs) 1297 s_e176.1 0 [(0, .ref 0), (1, .int a)] [] s_M0 _
      refine s_ek_bk 1 (P := 1) (ls' := [(0, .ref 0), (1, .int a)]) (st' := [.int a]) (M' := s_M0) rfl ?_
      refine s_ek_if1 (T := 22) rfl rfl (fun h3 => ?_) (fun h3 => ?_)
      · replace h3 : a.toInt < 0 := h3
        omega
      · replace h3 : ¬ (a.toInt < 0) := h3
        replace h3 : 0 ≤ a.toInt := by omega
        refine s_ek_bk 4 (P := 10) (ls' := [(0, .ref 0), (1, .int a)]) (st' := [.int 6, .int a]) (M' := s_M0) rfl ?_
        refine s_ek_if2 (T := 22) rfl rfl (fun h4 => ?_) (fun h4 => ?_)
        · replace h4 : 6 ≤ a.toInt := h4
          omega
        · replace h4 : ¬ (6 ≤ a.toInt) := h4
          replace h4 : a.toInt < 6 := by omega
          refine s_ek_bk 3 (P := 18) (ls' := [(0, .ref 0), (1, .int a)]) (st' := [.int a, .ref 135]) (M' := s_M0) rfl ?_
          rcases s_rg_0_5 (a := a) (by omega) (by omega) with rfl | rfl | rfl | rfl | rfl | rfl
          · refine s_ek_bk 6 (P := 33) (ls' := [(0, .ref 0), (1, .int 0)]) (st' := [.ref 139]) (M' := s_M0) rfl ?_
            refine s_ek_ret (o := some (.ref 139)) (fun _ => rfl) ?_
            show s_Ek (s_rows 3 L xs) 1298 s_e177.1 14 [(0, .ref 0), (1, .int 0)] [.ref 139] s_M0 _
            refine s_ek_bk 2 (P := 16) (ls' := [(2, .ref 139), (0, .ref 0), (1, .int 0)]) (st' := [.ref 139]) (M' := s_M0) rfl ?_
            refine s_ek_call (ν := s_e84.1) (P := 19) (as := [.ref 139]) (r := []) (fun _ => rfl) rfl ?_
            show s_Ek (s_rows 3 L xs) 1297 s_e84.1 0 [(0, .ref 139)] [] s_M0 _
            refine s_ek_bk 6 (P := 13) (ls' := [(0, .ref 139)]) (st' := [.int 1]) (M' := s_M0) rfl ?_
            refine s_ek_ret (o := some (.int 1)) (fun _ => rfl) ?_
            show s_Ek (s_rows 3 L xs) 1298 s_e177.1 19 [(2, .ref 139), (0, .ref 0), (1, .int 0)] [.int 1] s_M0 _
            refine s_ek_bk 2 (P := 24) (ls' := [(2, .ref 139), (0, .ref 0), (1, .int 0)]) (st' := [.int (-11)]) (M' := s_M0) rfl ?_
            refine s_ek_ret (o := some (.int (-11))) (fun _ => rfl) ?_
            show s_Ek (s_rows 3 L xs) 1299 s_e145.1 5 [(0, .ref 0), (1, .int 0)] [.int (-11)] s_M0 _
            refine s_ek_bk 4 (P := 11) (ls' := [(2, .int (-11)), (0, .ref 0), (1, .int 0)]) (st' := [.int (-11)]) (M' := s_M0) rfl ?_
            refine s_ek_ret (o := some (.int (-11))) (fun _ => rfl) ?_
            refine ⟨(-11), rfl, ?_⟩
            show s_Ek (s_rows 3 L xs) 1299 s_e241.1 0 [(0, .ref 151), (1, .int 0)] [] s_M0 _
            refine s_ek_bk 1 (P := 1) (ls' := [(0, .ref 151), (1, .int 0)]) (st' := [.int 0]) (M' := s_M0) rfl ?_
            refine s_ek_call (ν := s_e281.1) (P := 4) (as := [.int 0]) (r := []) (fun _ => rfl) rfl ?_
            show s_Ek (s_rows 3 L xs) 1298 s_e281.1 0 [(0, .int 0)] [] s_M0 _
            refine s_ek_bk 3 (P := 3) (ls' := [(0, .int 0)]) (st' := [.int 5, .int 0, .int 0]) (M' := s_M0) rfl ?_
            refine s_ek_call (ν := s_e181.1) (P := 6) (as := [.int 0, .int 0, .int 5]) (r := []) (fun _ => rfl) rfl ?_
            show s_Ek (s_rows 3 L xs) 1297 s_e181.1 0 [(0, .int 0), (1, .int 0), (2, .int 5)] [] s_M0 _
            refine s_ek_bk 8 (P := 15) (ls' := [(0, .int 0), (1, .int 0), (2, .int 5)]) (st' := [.int 1]) (M' := s_M0) rfl ?_
            refine s_ek_ret (o := some (.int 1)) (fun _ => rfl) ?_
            show s_Ek (s_rows 3 L xs) 1298 s_e281.1 6 [(0, .int 0)] [.int 1] s_M0 _
            refine s_ek_ret (o := some (.int 1)) (fun _ => rfl) ?_
            show s_Ek (s_rows 3 L xs) 1299 s_e241.1 4 [(0, .ref 151), (1, .int 0)] [.int 1] s_M0 _
            refine s_ek_bk 3 (P := 11) (ls' := [(0, .ref 151), (1, .int 0)]) (st' := [.int 0, .ref 151]) (M' := s_M0) rfl ?_
            refine s_ek_call (ν := s_e236.1) (P := 14) (as := [.ref 151, .int 0]) (r := []) (fun _ => rfl) rfl ?_
            show s_Ek (s_rows 3 L xs) 1298 s_e236.1 0 [(0, .ref 151), (1, .int 0)] [] s_M0 _
            refine s_ek_bk 8 (P := 32) (ls' := [(0, .ref 151), (1, .int 0)]) (st' := [.int (-11)]) (M' := s_M0) rfl ?_
            refine s_ek_ret (o := some (.int (-11))) (fun _ => rfl) ?_
            show s_Ek (s_rows 3 L xs) 1299 s_e241.1 14 [(0, .ref 151), (1, .int 0)] [.int (-11)] s_M0 _
            refine s_ek_bk 3 (P := 19) (ls' := [(0, .ref 151), (1, .int 0)]) (st' := [.int 0, .ref 151]) (M' := s_M0) rfl ?_
            refine s_ek_call (ν := s_e236.1) (P := 22) (as := [.ref 151, .int 0]) (r := []) (fun _ => rfl) rfl ?_
            show s_Ek (s_rows 3 L xs) 1298 s_e236.1 0 [(0, .ref 151), (1, .int 0)] [] s_M0 _
            refine s_ek_bk 8 (P := 32) (ls' := [(0, .ref 151), (1, .int 0)]) (st' := [.int (-11)]) (M' := s_M0) rfl ?_
            refine s_ek_ret (o := some (.int (-11))) (fun _ => rfl) ?_
            show s_Ek (s_rows 3 L xs) 1299 s_e241.1 22 [(0, .ref 151), (1, .int 0)] [.int (-11)] s_M0 _
            refine s_ek_ret (o := some (.int (-11))) (fun _ => rfl) ?_
            exact rfl
          · refine s_ek_bk 6 (P := 33) (ls' := [(0, .ref 0), (1, .int 1)]) (st' := [.ref 141]) (M' := s_M0) rfl ?_
            refine s_ek_ret (o := some (.ref 141)) (fun _ => rfl) ?_
            show s_Ek (s_rows 3 L xs) 1298 s_e177.1 14 [(0, .ref 0), (1, .int 1)] [.ref 141] s_M0 _
            refine s_ek_bk 2 (P := 16) (ls' := [(2, .ref 141), (0, .ref 0), (1, .int 1)]) (st' := [.ref 141]) (M' := s_M0) rfl ?_
            refine s_ek_call (ν := s_e84.1) (P := 19) (as := [.ref 141]) (r := []) (fun _ => rfl) rfl ?_
            show s_Ek (s_rows 3 L xs) 1297 s_e84.1 0 [(0, .ref 141)] [] s_M0 _
            refine s_ek_bk 6 (P := 13) (ls' := [(0, .ref 141)]) (st' := [.int 1]) (M' := s_M0) rfl ?_
            refine s_ek_ret (o := some (.int 1)) (fun _ => rfl) ?_
            show s_Ek (s_rows 3 L xs) 1298 s_e177.1 19 [(2, .ref 141), (0, .ref 0), (1, .int 1)] [.int 1] s_M0 _
            refine s_ek_bk 2 (P := 24) (ls' := [(2, .ref 141), (0, .ref 0), (1, .int 1)]) (st' := [.int (-11)]) (M' := s_M0) rfl ?_
            refine s_ek_ret (o := some (.int (-11))) (fun _ => rfl) ?_
            show s_Ek (s_rows 3 L xs) 1299 s_e145.1 5 [(0, .ref 0), (1, .int 1)] [.int (-11)] s_M0 _
            refine s_ek_bk 4 (P := 11) (ls' := [(2, .int (-11)), (0, .ref 0), (1, .int 1)]) (st' := [.int (-11)]) (M' := s_M0) rfl ?_
            refine s_ek_ret (o := some (.int (-11))) (fun _ => rfl) ?_
            refine ⟨(-11), rfl, ?_⟩
            show s_Ek (s_rows 3 L xs) 1299 s_e241.1 0 [(0, .ref 151), (1, .int 1)] [] s_M0 _
            refine s_ek_bk 1 (P := 1) (ls' := [(0, .ref 151), (1, .int 1)]) (st' := [.int 1]) (M' := s_M0) rfl ?_
            refine s_ek_call (ν := s_e281.1) (P := 4) (as := [.int 1]) (r := []) (fun _ => rfl) rfl ?_
            show s_Ek (s_rows 3 L xs) 1298 s_e281.1 0 [(0, .int 1)] [] s_M0 _
            refine s_ek_bk 3 (P := 3) (ls' := [(0, .int 1)]) (st' := [.int 5, .int 0, .int 1]) (M' := s_M0) rfl ?_
            refine s_ek_call (ν := s_e181.1) (P := 6) (as := [.int 1, .int 0, .int 5]) (r := []) (fun _ => rfl) rfl ?_
            show s_Ek (s_rows 3 L xs) 1297 s_e181.1 0 [(0, .int 1), (1, .int 0), (2, .int 5)] [] s_M0 _
            refine s_ek_bk 8 (P := 15) (ls' := [(0, .int 1), (1, .int 0), (2, .int 5)]) (st' := [.int 1]) (M' := s_M0) rfl ?_
            refine s_ek_ret (o := some (.int 1)) (fun _ => rfl) ?_
            show s_Ek (s_rows 3 L xs) 1298 s_e281.1 6 [(0, .int 1)] [.int 1] s_M0 _
            refine s_ek_ret (o := some (.int 1)) (fun _ => rfl) ?_
            show s_Ek (s_rows 3 L xs) 1299 s_e241.1 4 [(0, .ref 151), (1, .int 1)] [.int 1] s_M0 _
            refine s_ek_bk 3 (P := 11) (ls' := [(0, .ref 151), (1, .int 1)]) (st' := [.int 1, .ref 151]) (M' := s_M0) rfl ?_
            refine s_ek_call (ν := s_e236.1) (P := 14) (as := [.ref 151, .int 1]) (r := []) (fun _ => rfl) rfl ?_
            show s_Ek (s_rows 3 L xs) 1298 s_e236.1 0 [(0, .ref 151), (1, .int 1)] [] s_M0 _
            refine s_ek_bk 8 (P := 32) (ls' := [(0, .ref 151), (1, .int 1)]) (st' := [.int (-11)]) (M' := s_M0) rfl ?_
            refine s_ek_ret (o := some (.int (-11))) (fun _ => rfl) ?_
            show s_Ek (s_rows 3 L xs) 1299 s_e241.1 14 [(0, .ref 151), (1, .int 1)] [.int (-11)] s_M0 _
            refine s_ek_bk 3 (P := 19) (ls' := [(0, .ref 151), (1, .int 1)]) (st' := [.int 1, .ref 151]) (M' := s_M0) rfl ?_
            refine s_ek_call (ν := s_e236.1) (P := 22) (as := [.ref 151, .int 1]) (r := []) (fun _ => rfl) rfl ?_
            show s_Ek (s_rows 3 L xs) 1298 s_e236.1 0 [(0, .ref 151), (1, .int 1)] [] s_M0 _
            refine s_ek_bk 8 (P := 32) (ls' := [(0, .ref 151), (1, .int 1)]) (st' := [.int (-11)]) (M' := s_M0) rfl ?_
            refine s_ek_ret (o := some (.int (-11))) (fun _ => rfl) ?_
            show s_Ek (s_rows 3 L xs) 1299 s_e241.1 22 [(0, .ref 151), (1, .int 1)] [.int (-11)] s_M0 _
            refine s_ek_ret (o := some (.int (-11))) (fun _ => rfl) ?_
            exact rfl
          · refine s_ek_bk 6 (P := 33) (ls' := [(0, .ref 0), (1, .int 2)]) (st' := [.ref 143]) (M' := s_M0) rfl ?_
            refine s_ek_ret (o := some (.ref 143)) (fun _ => rfl) ?_
            show s_Ek (s_rows 3 L xs) 1298 s_e177.1 14 [(0, .ref 0), (1, .int 2)] [.ref 143] s_M0 _
            refine s_ek_bk 2 (P := 16) (ls' := [(2, .ref 143), (0, .ref 0), (1, .int 2)]) (st' := [.ref 143]) (M' := s_M0) rfl ?_
            refine s_ek_call (ν := s_e84.1) (P := 19) (as := [.ref 143]) (r := []) (fun _ => rfl) rfl ?_
            show s_Ek (s_rows 3 L xs) 1297 s_e84.1 0 [(0, .ref 143)] [] s_M0 _
            refine s_ek_bk 6 (P := 13) (ls' := [(0, .ref 143)]) (st' := [.int 1]) (M' := s_M0) rfl ?_
            refine s_ek_ret (o := some (.int 1)) (fun _ => rfl) ?_
            show s_Ek (s_rows 3 L xs) 1298 s_e177.1 19 [(2, .ref 143), (0, .ref 0), (1, .int 2)] [.int 1] s_M0 _
            refine s_ek_bk 2 (P := 24) (ls' := [(2, .ref 143), (0, .ref 0), (1, .int 2)]) (st' := [.int (-11)]) (M' := s_M0) rfl ?_
            refine s_ek_ret (o := some (.int (-11))) (fun _ => rfl) ?_
            show s_Ek (s_rows 3 L xs) 1299 s_e145.1 5 [(0, .ref 0), (1, .int 2)] [.int (-11)] s_M0 _
            refine s_ek_bk 4 (P := 11) (ls' := [(2, .int (-11)), (0, .ref 0), (1, .int 2)]) (st' := [.int (-11)]) (M' := s_M0) rfl ?_
            refine s_ek_ret (o := some (.int (-11))) (fun _ => rfl) ?_
            refine ⟨(-11), rfl, ?_⟩
            show s_Ek (s_rows 3 L xs) 1299 s_e241.1 0 [(0, .ref 151), (1, .int 2)] [] s_M0 _
            refine s_ek_bk 1 (P := 1) (ls' := [(0, .ref 151), (1, .int 2)]) (st' := [.int 2]) (M' := s_M0) rfl ?_
            refine s_ek_call (ν := s_e281.1) (P := 4) (as := [.int 2]) (r := []) (fun _ => rfl) rfl ?_
            show s_Ek (s_rows 3 L xs) 1298 s_e281.1 0 [(0, .int 2)] [] s_M0 _
            refine s_ek_bk 3 (P := 3) (ls' := [(0, .int 2)]) (st' := [.int 5, .int 0, .int 2]) (M' := s_M0) rfl ?_
            refine s_ek_call (ν := s_e181.1) (P := 6) (as := [.int 2, .int 0, .int 5]) (r := []) (fun _ => rfl) rfl ?_
            show s_Ek (s_rows 3 L xs) 1297 s_e181.1 0 [(0, .int 2), (1, .int 0), (2, .int 5)] [] s_M0 _
            refine s_ek_bk 8 (P := 15) (ls' := [(0, .int 2), (1, .int 0), (2, .int 5)]) (st' := [.int 1]) (M' := s_M0) rfl ?_
            refine s_ek_ret (o := some (.int 1)) (fun _ => rfl) ?_
            show s_Ek (s_rows 3 L xs) 1298 s_e281.1 6 [(0, .int 2)] [.int 1] s_M0 _
            refine s_ek_ret (o := some (.int 1)) (fun _ => rfl) ?_
            show s_Ek (s_rows 3 L xs) 1299 s_e241.1 4 [(0, .ref 151), (1, .int 2)] [.int 1] s_M0 _
            refine s_ek_bk 3 (P := 11) (ls' := [(0, .ref 151), (1, .int 2)]) (st' := [.int 2, .ref 151]) (M' := s_M0) rfl ?_
            refine s_ek_call (ν := s_e236.1) (P := 14) (as := [.ref 151, .int 2]) (r := []) (fun _ => rfl) rfl ?_
            show s_Ek (s_rows 3 L xs) 1298 s_e236.1 0 [(0, .ref 151), (1, .int 2)] [] s_M0 _
            refine s_ek_bk 8 (P := 32) (ls' := [(0, .ref 151), (1, .int 2)]) (st' := [.int (-11)]) (M' := s_M0) rfl ?_
            refine s_ek_ret (o := some (.int (-11))) (fun _ => rfl) ?_
            show s_Ek (s_rows 3 L xs) 1299 s_e241.1 14 [(0, .ref 151), (1, .int 2)] [.int (-11)] s_M0 _
            refine s_ek_bk 3 (P := 19) (ls' := [(0, .ref 151), (1, .int 2)]) (st' := [.int 2, .ref 151]) (M' := s_M0) rfl ?_
            refine s_ek_call (ν := s_e236.1) (P := 22) (as := [.ref 151, .int 2]) (r := []) (fun _ => rfl) rfl ?_
            show s_Ek (s_rows 3 L xs) 1298 s_e236.1 0 [(0, .ref 151), (1, .int 2)] [] s_M0 _
            refine s_ek_bk 8 (P := 32) (ls' := [(0, .ref 151), (1, .int 2)]) (st' := [.int (-11)]) (M' := s_M0) rfl ?_
            refine s_ek_ret (o := some (.int (-11))) (fun _ => rfl) ?_
            show s_Ek (s_rows 3 L xs) 1299 s_e241.1 22 [(0, .ref 151), (1, .int 2)] [.int (-11)] s_M0 _
            refine s_ek_ret (o := some (.int (-11))) (fun _ => rfl) ?_
            exact rfl
          · refine s_ek_bk 6 (P := 33) (ls' := [(0, .ref 0), (1, .int 3)]) (st' := [.ref 145]) (M' := s_M0) rfl ?_
            refine s_ek_ret (o := some (.ref 145)) (fun _ => rfl) ?_
            show s_Ek (s_rows 3 L xs) 1298 s_e177.1 14 [(0, .ref 0), (1, .int 3)] [.ref 145] s_M0 _
            refine s_ek_bk 2 (P := 16) (ls' := [(2, .ref 145), (0, .ref 0), (1, .int 3)]) (st' := [.ref 145]) (M' := s_M0) rfl ?_
            refine s_ek_call (ν := s_e84.1) (P := 19) (as := [.ref 145]) (r := []) (fun _ => rfl) rfl ?_
            show s_Ek (s_rows 3 L xs) 1297 s_e84.1 0 [(0, .ref 145)] [] s_M0 _
            refine s_ek_bk 6 (P := 13) (ls' := [(0, .ref 145)]) (st' := [.int 1]) (M' := s_M0) rfl ?_
            refine s_ek_ret (o := some (.int 1)) (fun _ => rfl) ?_
            show s_Ek (s_rows 3 L xs) 1298 s_e177.1 19 [(2, .ref 145), (0, .ref 0), (1, .int 3)] [.int 1] s_M0 _
            refine s_ek_bk 2 (P := 24) (ls' := [(2, .ref 145), (0, .ref 0), (1, .int 3)]) (st' := [.int (-11)]) (M' := s_M0) rfl ?_
            refine s_ek_ret (o := some (.int (-11))) (fun _ => rfl) ?_
            show s_Ek (s_rows 3 L xs) 1299 s_e145.1 5 [(0, .ref 0), (1, .int 3)] [.int (-11)] s_M0 _
            refine s_ek_bk 4 (P := 11) (ls' := [(2, .int (-11)), (0, .ref 0), (1, .int 3)]) (st' := [.int (-11)]) (M' := s_M0) rfl ?_
            refine s_ek_ret (o := some (.int (-11))) (fun _ => rfl) ?_
            refine ⟨(-11), rfl, ?_⟩
            show s_Ek (s_rows 3 L xs) 1299 s_e241.1 0 [(0, .ref 151), (1, .int 3)] [] s_M0 _
            refine s_ek_bk 1 (P := 1) (ls' := [(0, .ref 151), (1, .int 3)]) (st' := [.int 3]) (M' := s_M0) rfl ?_
            refine s_ek_call (ν := s_e281.1) (P := 4) (as := [.int 3]) (r := []) (fun _ => rfl) rfl ?_
            show s_Ek (s_rows 3 L xs) 1298 s_e281.1 0 [(0, .int 3)] [] s_M0 _
            refine s_ek_bk 3 (P := 3) (ls' := [(0, .int 3)]) (st' := [.int 5, .int 0, .int 3]) (M' := s_M0) rfl ?_
            refine s_ek_call (ν := s_e181.1) (P := 6) (as := [.int 3, .int 0, .int 5]) (r := []) (fun _ => rfl) rfl ?_
            show s_Ek (s_rows 3 L xs) 1297 s_e181.1 0 [(0, .int 3), (1, .int 0), (2, .int 5)] [] s_M0 _
            refine s_ek_bk 8 (P := 15) (ls' := [(0, .int 3), (1, .int 0), (2, .int 5)]) (st' := [.int 1]) (M' := s_M0) rfl ?_
            refine s_ek_ret (o := some (.int 1)) (fun _ => rfl) ?_
            show s_Ek (s_rows 3 L xs) 1298 s_e281.1 6 [(0, .int 3)] [.int 1] s_M0 _
            refine s_ek_ret (o := some (.int 1)) (fun _ => rfl) ?_
            show s_Ek (s_rows 3 L xs) 1299 s_e241.1 4 [(0, .ref 151), (1, .int 3)] [.int 1] s_M0 _
            refine s_ek_bk 3 (P := 11) (ls' := [(0, .ref 151), (1, .int 3)]) (st' := [.int 3, .ref 151]) (M' := s_M0) rfl ?_
            refine s_ek_call (ν := s_e236.1) (P := 14) (as := [.ref 151, .int 3]) (r := []) (fun _ => rfl) rfl ?_
            show s_Ek (s_rows 3 L xs) 1298 s_e236.1 0 [(0, .ref 151), (1, .int 3)] [] s_M0 _
            refine s_ek_bk 8 (P := 32) (ls' := [(0, .ref 151), (1, .int 3)]) (st' := [.int (-11)]) (M' := s_M0) rfl ?_
            refine s_ek_ret (o := some (.int (-11))) (fun _ => rfl) ?_
            show s_Ek (s_rows 3 L xs) 1299 s_e241.1 14 [(0, .ref 151), (1, .int 3)] [.int (-11)] s_M0 _
            refine s_ek_bk 3 (P := 19) (ls' := [(0, .ref 151), (1, .int 3)]) (st' := [.int 3, .ref 151]) (M' := s_M0) rfl ?_
            refine s_ek_call (ν := s_e236.1) (P := 22) (as := [.ref 151, .int 3]) (r := []) (fun _ => rfl) rfl ?_
            show s_Ek (s_rows 3 L xs) 1298 s_e236.1 0 [(0, .ref 151), (1, .int 3)] [] s_M0 _
            refine s_ek_bk 8 (P := 32) (ls' := [(0, .ref 151), (1, .int 3)]) (st' := [.int (-11)]) (M' := s_M0) rfl ?_
            refine s_ek_ret (o := some (.int (-11))) (fun _ => rfl) ?_
            show s_Ek (s_rows 3 L xs) 1299 s_e241.1 22 [(0, .ref 151), (1, .int 3)] [.int (-11)] s_M0 _
            refine s_ek_ret (o := some (.int (-11))) (fun _ => rfl) ?_
            exact rfl
          · refine s_ek_bk 6 (P := 33) (ls' := [(0, .ref 0), (1, .int 4)]) (st' := [.ref 147]) (M' := s_M0) rfl ?_
            refine s_ek_ret (o := some (.ref 147)) (fun _ => rfl) ?_
            show s_Ek (s_rows 3 L xs) 1298 s_e177.1 14 [(0, .ref 0), (1, .int 4)] [.ref 147] s_M0 _
            refine s_ek_bk 2 (P := 16) (ls' := [(2, .ref 147), (0, .ref 0), (1, .int 4)]) (st' := [.ref 147]) (M' := s_M0) rfl ?_
            refine s_ek_call (ν := s_e84.1) (P := 19) (as := [.ref 147]) (r := []) (fun _ => rfl) rfl ?_
            show s_Ek (s_rows 3 L xs) 1297 s_e84.1 0 [(0, .ref 147)] [] s_M0 _
            refine s_ek_bk 6 (P := 13) (ls' := [(0, .ref 147)]) (st' := [.int 1]) (M' := s_M0) rfl ?_
            refine s_ek_ret (o := some (.int 1)) (fun _ => rfl) ?_
            show s_Ek (s_rows 3 L xs) 1298 s_e177.1 19 [(2, .ref 147), (0, .ref 0), (1, .int 4)] [.int 1] s_M0 _
            refine s_ek_bk 2 (P := 24) (ls' := [(2, .ref 147), (0, .ref 0), (1, .int 4)]) (st' := [.int (-11)]) (M' := s_M0) rfl ?_
            refine s_ek_ret (o := some (.int (-11))) (fun _ => rfl) ?_
            show s_Ek (s_rows 3 L xs) 1299 s_e145.1 5 [(0, .ref 0), (1, .int 4)] [.int (-11)] s_M0 _
            refine s_ek_bk 4 (P := 11) (ls' := [(2, .int (-11)), (0, .ref 0), (1, .int 4)]) (st' := [.int (-11)]) (M' := s_M0) rfl ?_
            refine s_ek_ret (o := some (.int (-11))) (fun _ => rfl) ?_
            refine ⟨(-11), rfl, ?_⟩
            show s_Ek (s_rows 3 L xs) 1299 s_e241.1 0 [(0, .ref 151), (1, .int 4)] [] s_M0 _
            refine s_ek_bk 1 (P := 1) (ls' := [(0, .ref 151), (1, .int 4)]) (st' := [.int 4]) (M' := s_M0) rfl ?_
            refine s_ek_call (ν := s_e281.1) (P := 4) (as := [.int 4]) (r := []) (fun _ => rfl) rfl ?_
            show s_Ek (s_rows 3 L xs) 1298 s_e281.1 0 [(0, .int 4)] [] s_M0 _
            refine s_ek_bk 3 (P := 3) (ls' := [(0, .int 4)]) (st' := [.int 5, .int 0, .int 4]) (M' := s_M0) rfl ?_
            refine s_ek_call (ν := s_e181.1) (P := 6) (as := [.int 4, .int 0, .int 5]) (r := []) (fun _ => rfl) rfl ?_
            show s_Ek (s_rows 3 L xs) 1297 s_e181.1 0 [(0, .int 4), (1, .int 0), (2, .int 5)] [] s_M0 _
            refine s_ek_bk 8 (P := 15) (ls' := [(0, .int 4), (1, .int 0), (2, .int 5)]) (st' := [.int 1]) (M' := s_M0) rfl ?_
            refine s_ek_ret (o := some (.int 1)) (fun _ => rfl) ?_
            show s_Ek (s_rows 3 L xs) 1298 s_e281.1 6 [(0, .int 4)] [.int 1] s_M0 _
            refine s_ek_ret (o := some (.int 1)) (fun _ => rfl) ?_
            show s_Ek (s_rows 3 L xs) 1299 s_e241.1 4 [(0, .ref 151), (1, .int 4)] [.int 1] s_M0 _
            refine s_ek_bk 3 (P := 11) (ls' := [(0, .ref 151), (1, .int 4)]) (st' := [.int 4, .ref 151]) (M' := s_M0) rfl ?_
            refine s_ek_call (ν := s_e236.1) (P := 14) (as := [.ref 151, .int 4]) (r := []) (fun _ => rfl) rfl ?_
            show s_Ek (s_rows 3 L xs) 1298 s_e236.1 0 [(0, .ref 151), (1, .int 4)] [] s_M0 _
            refine s_ek_bk 8 (P := 32) (ls' := [(0, .ref 151), (1, .int 4)]) (st' := [.int (-11)]) (M' := s_M0) rfl ?_
            refine s_ek_ret (o := some (.int (-11))) (fun _ => rfl) ?_
            show s_Ek (s_rows 3 L xs) 1299 s_e241.1 14 [(0, .ref 151), (1, .int 4)] [.int (-11)] s_M0 _
            refine s_ek_bk 3 (P := 19) (ls' := [(0, .ref 151), (1, .int 4)]) (st' := [.int 4, .ref 151]) (M' := s_M0) rfl ?_
            refine s_ek_call (ν := s_e236.1) (P := 22) (as := [.ref 151, .int 4]) (r := []) (fun _ => rfl) rfl ?_
            show s_Ek (s_rows 3 L xs) 1298 s_e236.1 0 [(0, .ref 151), (1, .int 4)] [] s_M0 _
            refine s_ek_bk 8 (P := 32) (ls' := [(0, .ref 151), (1, .int 4)]) (st' := [.int (-11)]) (M' := s_M0) rfl ?_
            refine s_ek_ret (o := some (.int (-11))) (fun _ => rfl) ?_
            show s_Ek (s_rows 3 L xs) 1299 s_e241.1 22 [(0, .ref 151), (1, .int 4)] [.int (-11)] s_M0 _
            refine s_ek_ret (o := some (.int (-11))) (fun _ => rfl) ?_
            exact rfl
          · refine s_ek_bk 6 (P := 33) (ls' := [(0, .ref 0), (1, .int 5)]) (st' := [.ref 149]) (M' := s_M0) rfl ?_
            refine s_ek_ret (o := some (.ref 149)) (fun _ => rfl) ?_
            show s_Ek (s_rows 3 L xs) 1298 s_e177.1 14 [(0, .ref 0), (1, .int 5)] [.ref 149] s_M0 _
            refine s_ek_bk 2 (P := 16) (ls' := [(2, .ref 149), (0, .ref 0), (1, .int 5)]) (st' := [.ref 149]) (M' := s_M0) rfl ?_
            refine s_ek_call (ν := s_e84.1) (P := 19) (as := [.ref 149]) (r := []) (fun _ => rfl) rfl ?_
            show s_Ek (s_rows 3 L xs) 1297 s_e84.1 0 [(0, .ref 149)] [] s_M0 _
            refine s_ek_bk 6 (P := 13) (ls' := [(0, .ref 149)]) (st' := [.int 1]) (M' := s_M0) rfl ?_
            refine s_ek_ret (o := some (.int 1)) (fun _ => rfl) ?_
            show s_Ek (s_rows 3 L xs) 1298 s_e177.1 19 [(2, .ref 149), (0, .ref 0), (1, .int 5)] [.int 1] s_M0 _
            refine s_ek_bk 2 (P := 24) (ls' := [(2, .ref 149), (0, .ref 0), (1, .int 5)]) (st' := [.int (-11)]) (M' := s_M0) rfl ?_
            refine s_ek_ret (o := some (.int (-11))) (fun _ => rfl) ?_
            show s_Ek (s_rows 3 L xs) 1299 s_e145.1 5 [(0, .ref 0), (1, .int 5)] [.int (-11)] s_M0 _
            refine s_ek_bk 4 (P := 11) (ls' := [(2, .int (-11)), (0, .ref 0), (1, .int 5)]) (st' := [.int (-11)]) (M' := s_M0) rfl ?_
            refine s_ek_ret (o := some (.int (-11))) (fun _ => rfl) ?_
            refine ⟨(-11), rfl, ?_⟩
            show s_Ek (s_rows 3 L xs) 1299 s_e241.1 0 [(0, .ref 151), (1, .int 5)] [] s_M0 _
            refine s_ek_bk 1 (P := 1) (ls' := [(0, .ref 151), (1, .int 5)]) (st' := [.int 5]) (M' := s_M0) rfl ?_
            refine s_ek_call (ν := s_e281.1) (P := 4) (as := [.int 5]) (r := []) (fun _ => rfl) rfl ?_
            show s_Ek (s_rows 3 L xs) 1298 s_e281.1 0 [(0, .int 5)] [] s_M0 _
            refine s_ek_bk 3 (P := 3) (ls' := [(0, .int 5)]) (st' := [.int 5, .int 0, .int 5]) (M' := s_M0) rfl ?_
            refine s_ek_call (ν := s_e181.1) (P := 6) (as := [.int 5, .int 0, .int 5]) (r := []) (fun _ => rfl) rfl ?_
            show s_Ek (s_rows 3 L xs) 1297 s_e181.1 0 [(0, .int 5), (1, .int 0), (2, .int 5)] [] s_M0 _
            refine s_ek_bk 8 (P := 15) (ls' := [(0, .int 5), (1, .int 0), (2, .int 5)]) (st' := [.int 1]) (M' := s_M0) rfl ?_
            refine s_ek_ret (o := some (.int 1)) (fun _ => rfl) ?_
            show s_Ek (s_rows 3 L xs) 1298 s_e281.1 6 [(0, .int 5)] [.int 1] s_M0 _
            refine s_ek_ret (o := some (.int 1)) (fun _ => rfl) ?_
            show s_Ek (s_rows 3 L xs) 1299 s_e241.1 4 [(0, .ref 151), (1, .int 5)] [.int 1] s_M0 _
            refine s_ek_bk 3 (P := 11) (ls' := [(0, .ref 151), (1, .int 5)]) (st' := [.int 5, .ref 151]) (M' := s_M0) rfl ?_
            refine s_ek_call (ν := s_e236.1) (P := 14) (as := [.ref 151, .int 5]) (r := []) (fun _ => rfl) rfl ?_
            show s_Ek (s_rows 3 L xs) 1298 s_e236.1 0 [(0, .ref 151), (1, .int 5)] [] s_M0 _
            refine s_ek_bk 8 (P := 32) (ls' := [(0, .ref 151), (1, .int 5)]) (st' := [.int (-11)]) (M' := s_M0) rfl ?_
            refine s_ek_ret (o := some (.int (-11))) (fun _ => rfl) ?_
            show s_Ek (s_rows 3 L xs) 1299 s_e241.1 14 [(0, .ref 151), (1, .int 5)] [.int (-11)] s_M0 _
            refine s_ek_bk 3 (P := 19) (ls' := [(0, .ref 151), (1, .int 5)]) (st' := [.int 5, .ref 151]) (M' := s_M0) rfl ?_
            refine s_ek_call (ν := s_e236.1) (P := 22) (as := [.ref 151, .int 5]) (r := []) (fun _ => rfl) rfl ?_
            show s_Ek (s_rows 3 L xs) 1298 s_e236.1 0 [(0, .ref 151), (1, .int 5)] [] s_M0 _
            refine s_ek_bk 8 (P := 32) (ls' := [(0, .ref 151), (1, .int 5)]) (st' := [.int (-11)]) (M' := s_M0) rfl ?_
            refine s_ek_ret (o := some (.int (-11))) (fun _ => rfl) ?_
            show s_Ek (s_rows 3 L xs) 1299 s_e241.1 22 [(0, .ref 151), (1, .int 5)] [.int (-11)] s_M0 _
            refine s_ek_ret (o := some (.int (-11))) (fun _ => rfl) ?_
            exact rfl
set_option maxHeartbeats 20000000 in
set_option maxRecDepth 100000 in
theorem s_op_falseOnes (L : Nat) (xs : Nat → Int32) (a : Int32) : s_Ek (s_rows 3 L xs) 1299 s_e151.1 0 (lv_args 0 [.ref 0, .int a]) [] s_M0 (fun v M1 => ∃ r : Int32, v = some (.int r) ∧ s_Ek (s_rows 3 L xs) 1299 s_e255.1 0 (lv_args 0 [.ref 151, .int a]) [] M1 (fun w _ => w = some (.int r))) := by
  show s_Ek (s_rows 3 L xs) 1299 s_e151.1 0 [(0, .ref 0), (1, .int a)] [] s_M0 _
  refine s_ek_bk 2 (P := 2) (ls' := [(0, .ref 0), (1, .int a)]) (st' := [.int a, .ref 0]) (M' := s_M0) rfl ?_
  refine s_ek_call (ν := s_e177.1) (P := 5) (as := [.ref 0, .int a]) (r := []) (fun _ => rfl) rfl ?_
  show s_Ek (s_rows 3 L xs) 1298 s_e177.1 0 [(0, .ref 0), (1, .int a)] [] s_M0 _
  refine s_ek_bk 1 (P := 1) (ls' := [(0, .ref 0), (1, .int a)]) (st' := [.int a]) (M' := s_M0) rfl ?_
  refine s_ek_call (ν := s_e175.1) (P := 4) (as := [.int a]) (r := []) (fun _ => rfl) rfl ?_
  show s_Ek (s_rows 3 L xs) 1297 s_e175.1 0 [(0, .int a)] [] s_M0 _
  refine s_ek_bk 1 (P := 1) (ls' := [(0, .int a)]) (st' := [.int a]) (M' := s_M0) rfl ?_
  refine s_ek_if1 (T := 14) rfl rfl (fun h1 => ?_) (fun h1 => ?_)
  · replace h1 : a.toInt < 0 := h1
    refine s_ek_bk 1 (P := 15) (ls' := [(0, .int a)]) (st' := [.int 0]) (M' := s_M0) rfl ?_
    refine s_ek_ret (o := some (.int 0)) (fun _ => rfl) ?_
    show s_Ek (s_rows 3 L xs) 1298 s_e177.1 4 [(0, .ref 0), (1, .int a)] [.int 0] s_M0 _
    refine s_ek_bk 2 (P := 8) (ls' := [(0, .ref 0), (1, .int a)]) (st' := [.int (-1)]) (M' := s_M0) rfl ?_
    refine s_ek_ret (o := some (.int (-1))) (fun _ => rfl) ?_
    show s_Ek (s_rows 3 L xs) 1299 s_e151.1 5 [(0, .ref 0), (1, .int a)] [.int (-1)] s_M0 _
    refine s_ek_bk 4 (P := 11) (ls' := [(2, .int (-1)), (0, .ref 0), (1, .int a)]) (st' := [.int (-1)]) (M' := s_M0) rfl ?_
    refine s_ek_ret (o := some (.int (-1))) (fun _ => rfl) ?_
    refine ⟨(-1), rfl, ?_⟩
    show s_Ek (s_rows 3 L xs) 1299 s_e255.1 0 [(0, .ref 151), (1, .int a)] [] s_M0 _
    refine s_ek_bk 1 (P := 1) (ls' := [(0, .ref 151), (1, .int a)]) (st' := [.int a]) (M' := s_M0) rfl ?_
    refine s_ek_call (ν := s_e281.1) (P := 4) (as := [.int a]) (r := []) (fun _ => rfl) rfl ?_
    show s_Ek (s_rows 3 L xs) 1298 s_e281.1 0 [(0, .int a)] [] s_M0 _
    refine s_ek_bk 3 (P := 3) (ls' := [(0, .int a)]) (st' := [.int 5, .int 0, .int a]) (M' := s_M0) rfl ?_
    refine s_ek_call (ν := s_e181.1) (P := 6) (as := [.int a, .int 0, .int 5]) (r := []) (fun _ => rfl) rfl ?_
    show s_Ek (s_rows 3 L xs) 1297 s_e181.1 0 [(0, .int a), (1, .int 0), (2, .int 5)] [] s_M0 _
    refine s_ek_bk 2 (P := 2) (ls' := [(0, .int a), (1, .int 0), (2, .int 5)]) (st' := [.int 0, .int a]) (M' := s_M0) rfl ?_
    refine s_ek_if2 (T := 14) rfl rfl (fun h2 => ?_) (fun h2 => ?_)
    · replace h2 : a.toInt < 0 := h2
      refine s_ek_bk 1 (P := 15) (ls' := [(0, .int a), (1, .int 0), (2, .int 5)]) (st' := [.int 0]) (M' := s_M0) rfl ?_
      refine s_ek_ret (o := some (.int 0)) (fun _ => rfl) ?_
      show s_Ek (s_rows 3 L xs) 1298 s_e281.1 6 [(0, .int a)] [.int 0] s_M0 _
      refine s_ek_ret (o := some (.int 0)) (fun _ => rfl) ?_
      show s_Ek (s_rows 3 L xs) 1299 s_e255.1 4 [(0, .ref 151), (1, .int a)] [.int 0] s_M0 _
      refine s_ek_bk 2 (P := 8) (ls' := [(0, .ref 151), (1, .int a)]) (st' := [.int (-1)]) (M' := s_M0) rfl ?_
      refine s_ek_ret (o := some (.int (-1))) (fun _ => rfl) ?_
      exact rfl
    · replace h2 : ¬ (a.toInt < 0) := h2
      replace h2 : 0 ≤ a.toInt := by omega
      omega
  · replace h1 : ¬ (a.toInt < 0) := h1
    replace h1 : 0 ≤ a.toInt := by omega
    refine s_ek_bk 2 (P := 7) (ls' := [(0, .int a)]) (st' := [.int 6, .int a]) (M' := s_M0) rfl ?_
    refine s_ek_if2 (T := 14) rfl rfl (fun h2 => ?_) (fun h2 => ?_)
    · replace h2 : 6 ≤ a.toInt := h2
      refine s_ek_bk 1 (P := 15) (ls' := [(0, .int a)]) (st' := [.int 0]) (M' := s_M0) rfl ?_
      refine s_ek_ret (o := some (.int 0)) (fun _ => rfl) ?_
      show s_Ek (s_rows 3 L xs) 1298 s_e177.1 4 [(0, .ref 0), (1, .int a)] [.int 0] s_M0 _
      refine s_ek_bk 2 (P := 8) (ls' := [(0, .ref 0), (1, .int a)]) (st' := [.int (-1)]) (M' := s_M0) rfl ?_
      refine s_ek_ret (o := some (.int (-1))) (fun _ => rfl) ?_
      show s_Ek (s_rows 3 L xs) 1299 s_e151.1 5 [(0, .ref 0), (1, .int a)] [.int (-1)] s_M0 _
      refine s_ek_bk 4 (P := 11) (ls' := [(2, .int (-1)), (0, .ref 0), (1, .int a)]) (st' := [.int (-1)]) (M' := s_M0) rfl ?_
      refine s_ek_ret (o := some (.int (-1))) (fun _ => rfl) ?_
      refine ⟨(-1), rfl, ?_⟩
      show s_Ek (s_rows 3 L xs) 1299 s_e255.1 0 [(0, .ref 151), (1, .int a)] [] s_M0 _
      refine s_ek_bk 1 (P := 1) (ls' := [(0, .ref 151), (1, .int a)]) (st' := [.int a]) (M' := s_M0) rfl ?_
      refine s_ek_call (ν := s_e281.1) (P := 4) (as := [.int a]) (r := []) (fun _ => rfl) rfl ?_
      show s_Ek (s_rows 3 L xs) 1298 s_e281.1 0 [(0, .int a)] [] s_M0 _
      refine s_ek_bk 3 (P := 3) (ls' := [(0, .int a)]) (st' := [.int 5, .int 0, .int a]) (M' := s_M0) rfl ?_
      refine s_ek_call (ν := s_e181.1) (P := 6) (as := [.int a, .int 0, .int 5]) (r := []) (fun _ => rfl) rfl ?_
      show s_Ek (s_rows 3 L xs) 1297 s_e181.1 0 [(0, .int a), (1, .int 0), (2, .int 5)] [] s_M0 _
      refine s_ek_bk 2 (P := 2) (ls' := [(0, .int a), (1, .int 0), (2, .int 5)]) (st' := [.int 0, .int a]) (M' := s_M0) rfl ?_
      refine s_ek_if2 (T := 14) rfl rfl (fun h3 => ?_) (fun h3 => ?_)
      · replace h3 : a.toInt < 0 := h3
        omega
      · replace h3 : ¬ (a.toInt < 0) := h3
        replace h3 : 0 ≤ a.toInt := by omega
        refine s_ek_bk 2 (P := 7) (ls' := [(0, .int a), (1, .int 0), (2, .int 5)]) (st' := [.int 5, .int a]) (M' := s_M0) rfl ?_
        refine s_ek_if2 (T := 14) rfl rfl (fun h4 => ?_) (fun h4 => ?_)
        · replace h4 : 5 < a.toInt := h4
          refine s_ek_bk 1 (P := 15) (ls' := [(0, .int a), (1, .int 0), (2, .int 5)]) (st' := [.int 0]) (M' := s_M0) rfl ?_
          refine s_ek_ret (o := some (.int 0)) (fun _ => rfl) ?_
          show s_Ek (s_rows 3 L xs) 1298 s_e281.1 6 [(0, .int a)] [.int 0] s_M0 _
          refine s_ek_ret (o := some (.int 0)) (fun _ => rfl) ?_
          show s_Ek (s_rows 3 L xs) 1299 s_e255.1 4 [(0, .ref 151), (1, .int a)] [.int 0] s_M0 _
          refine s_ek_bk 2 (P := 8) (ls' := [(0, .ref 151), (1, .int a)]) (st' := [.int (-1)]) (M' := s_M0) rfl ?_
          refine s_ek_ret (o := some (.int (-1))) (fun _ => rfl) ?_
          exact rfl
        · replace h4 : ¬ (5 < a.toInt) := h4
          replace h4 : a.toInt ≤ 5 := by omega
          omega
    · replace h2 : ¬ (6 ≤ a.toInt) := h2
      replace h2 : a.toInt < 6 := by omega
      refine s_ek_bk 2 (P := 15) (ls' := [(0, .int a)]) (st' := [.int 1]) (M' := s_M0) rfl ?_
      refine s_ek_ret (o := some (.int 1)) (fun _ => rfl) ?_
      show s_Ek (s_rows 3 L xs) 1298 s_e177.1 4 [(0, .ref 0), (1, .int a)] [.int 1] s_M0 _
      refine s_ek_bk 3 (P := 11) (ls' := [(0, .ref 0), (1, .int a)]) (st' := [.int a, .ref 0]) (M' := s_M0) rfl ?_
      refine s_ek_call (ν := s_e176.1) (P := 14) (as := [.ref 0, .int a]) (r := []) (fun _ => rfl) rfl ?_
      show s_Ek (s_rows 3 L xs) 1297 s_e176.1 0 [(0, .ref 0), (1, .int a)] [] s_M0 _
      refine s_ek_bk 1 (P := 1) (ls' := [(0, .ref 0), (1, .int a)]) (st' := [.int a]) (M' := s_M0) rfl ?_
      refine s_ek_if1 (T := 22) rfl rfl (fun h3 => ?_) (fun h3 => ?_)
      · replace h3 : a.toInt < 0 := h3
        omega
      · replace h3 : ¬ (a.toInt < 0) := h3
        replace h3 : 0 ≤ a.toInt := by omega
        refine s_ek_bk 4 (P := 10) (ls' := [(0, .ref 0), (1, .int a)]) (st' := [.int 6, .int a]) (M' := s_M0) rfl ?_
        refine s_ek_if2 (T := 22) rfl rfl (fun h4 => ?_) (fun h4 => ?_)
        · replace h4 : 6 ≤ a.toInt := h4
          omega
        · replace h4 : ¬ (6 ≤ a.toInt) := h4
          replace h4 : a.toInt < 6 := by omega
          refine s_ek_bk 3 (P := 18) (ls' := [(0, .ref 0), (1, .int a)]) (st' := [.int a, .ref 135]) (M' := s_M0) rfl ?_
          rcases s_rg_0_5 (a := a) (by omega) (by omega) with rfl | rfl | rfl | rfl | rfl | rfl
          · refine s_ek_bk 6 (P := 33) (ls' := [(0, .ref 0), (1, .int 0)]) (st' := [.ref 139]) (M' := s_M0) rfl ?_
            refine s_ek_ret (o := some (.ref 139)) (fun _ => rfl) ?_
            show s_Ek (s_rows 3 L xs) 1298 s_e177.1 14 [(0, .ref 0), (1, .int 0)] [.ref 139] s_M0 _
            refine s_ek_bk 2 (P := 16) (ls' := [(2, .ref 139), (0, .ref 0), (1, .int 0)]) (st' := [.ref 139]) (M' := s_M0) rfl ?_
            refine s_ek_call (ν := s_e84.1) (P := 19) (as := [.ref 139]) (r := []) (fun _ => rfl) rfl ?_
            show s_Ek (s_rows 3 L xs) 1297 s_e84.1 0 [(0, .ref 139)] [] s_M0 _
            refine s_ek_bk 6 (P := 13) (ls' := [(0, .ref 139)]) (st' := [.int 1]) (M' := s_M0) rfl ?_
            refine s_ek_ret (o := some (.int 1)) (fun _ => rfl) ?_
            show s_Ek (s_rows 3 L xs) 1298 s_e177.1 19 [(2, .ref 139), (0, .ref 0), (1, .int 0)] [.int 1] s_M0 _
            refine s_ek_bk 2 (P := 24) (ls' := [(2, .ref 139), (0, .ref 0), (1, .int 0)]) (st' := [.int (-11)]) (M' := s_M0) rfl ?_
            refine s_ek_ret (o := some (.int (-11))) (fun _ => rfl) ?_
            show s_Ek (s_rows 3 L xs) 1299 s_e151.1 5 [(0, .ref 0), (1, .int 0)] [.int (-11)] s_M0 _
            refine s_ek_bk 4 (P := 11) (ls' := [(2, .int (-11)), (0, .ref 0), (1, .int 0)]) (st' := [.int (-11)]) (M' := s_M0) rfl ?_
            refine s_ek_ret (o := some (.int (-11))) (fun _ => rfl) ?_
            refine ⟨(-11), rfl, ?_⟩
            show s_Ek (s_rows 3 L xs) 1299 s_e255.1 0 [(0, .ref 151), (1, .int 0)] [] s_M0 _
            refine s_ek_bk 1 (P := 1) (ls' := [(0, .ref 151), (1, .int 0)]) (st' := [.int 0]) (M' := s_M0) rfl ?_
            refine s_ek_call (ν := s_e281.1) (P := 4) (as := [.int 0]) (r := []) (fun _ => rfl) rfl ?_
            show s_Ek (s_rows 3 L xs) 1298 s_e281.1 0 [(0, .int 0)] [] s_M0 _
            refine s_ek_bk 3 (P := 3) (ls' := [(0, .int 0)]) (st' := [.int 5, .int 0, .int 0]) (M' := s_M0) rfl ?_
            refine s_ek_call (ν := s_e181.1) (P := 6) (as := [.int 0, .int 0, .int 5]) (r := []) (fun _ => rfl) rfl ?_
            show s_Ek (s_rows 3 L xs) 1297 s_e181.1 0 [(0, .int 0), (1, .int 0), (2, .int 5)] [] s_M0 _
            refine s_ek_bk 8 (P := 15) (ls' := [(0, .int 0), (1, .int 0), (2, .int 5)]) (st' := [.int 1]) (M' := s_M0) rfl ?_
            refine s_ek_ret (o := some (.int 1)) (fun _ => rfl) ?_
            show s_Ek (s_rows 3 L xs) 1298 s_e281.1 6 [(0, .int 0)] [.int 1] s_M0 _
            refine s_ek_ret (o := some (.int 1)) (fun _ => rfl) ?_
            show s_Ek (s_rows 3 L xs) 1299 s_e255.1 4 [(0, .ref 151), (1, .int 0)] [.int 1] s_M0 _
            refine s_ek_bk 3 (P := 11) (ls' := [(0, .ref 151), (1, .int 0)]) (st' := [.int 0, .ref 151]) (M' := s_M0) rfl ?_
            refine s_ek_call (ν := s_e236.1) (P := 14) (as := [.ref 151, .int 0]) (r := []) (fun _ => rfl) rfl ?_
            show s_Ek (s_rows 3 L xs) 1298 s_e236.1 0 [(0, .ref 151), (1, .int 0)] [] s_M0 _
            refine s_ek_bk 8 (P := 32) (ls' := [(0, .ref 151), (1, .int 0)]) (st' := [.int (-11)]) (M' := s_M0) rfl ?_
            refine s_ek_ret (o := some (.int (-11))) (fun _ => rfl) ?_
            show s_Ek (s_rows 3 L xs) 1299 s_e255.1 14 [(0, .ref 151), (1, .int 0)] [.int (-11)] s_M0 _
            refine s_ek_bk 3 (P := 19) (ls' := [(0, .ref 151), (1, .int 0)]) (st' := [.int 0, .ref 151]) (M' := s_M0) rfl ?_
            refine s_ek_call (ν := s_e236.1) (P := 22) (as := [.ref 151, .int 0]) (r := []) (fun _ => rfl) rfl ?_
            show s_Ek (s_rows 3 L xs) 1298 s_e236.1 0 [(0, .ref 151), (1, .int 0)] [] s_M0 _
            refine s_ek_bk 8 (P := 32) (ls' := [(0, .ref 151), (1, .int 0)]) (st' := [.int (-11)]) (M' := s_M0) rfl ?_
            refine s_ek_ret (o := some (.int (-11))) (fun _ => rfl) ?_
            show s_Ek (s_rows 3 L xs) 1299 s_e255.1 22 [(0, .ref 151), (1, .int 0)] [.int (-11)] s_M0 _
            refine s_ek_ret (o := some (.int (-11))) (fun _ => rfl) ?_
            exact rfl
          · refine s_ek_bk 6 (P := 33) (ls' := [(0, .ref 0), (1, .int 1)]) (st' := [.ref 141]) (M' := s_M0) rfl ?_
            refine s_ek_ret (o := some (.ref 141)) (fun _ => rfl) ?_
            show s_Ek (s_rows 3 L xs) 1298 s_e177.1 14 [(0, .ref 0), (1, .int 1)] [.ref 141] s_M0 _
            refine s_ek_bk 2 (P := 16) (ls' := [(2, .ref 141), (0, .ref 0), (1, .int 1)]) (st' := [.ref 141]) (M' := s_M0) rfl ?_
            refine s_ek_call (ν := s_e84.1) (P := 19) (as := [.ref 141]) (r := []) (fun _ => rfl) rfl ?_
            show s_Ek (s_rows 3 L xs) 1297 s_e84.1 0 [(0, .ref 141)] [] s_M0 _
            refine s_ek_bk 6 (P := 13) (ls' := [(0, .ref 141)]) (st' := [.int 1]) (M' := s_M0) rfl ?_
            refine s_ek_ret (o := some (.int 1)) (fun _ => rfl) ?_
            show s_Ek (s_rows 3 L xs) 1298 s_e177.1 19 [(2, .ref 141), (0, .ref 0), (1, .int 1)] [.int 1] s_M0 _
            refine s_ek_bk 2 (P := 24) (ls' := [(2, .ref 141), (0, .ref 0), (1, .int 1)]) (st' := [.int (-11)]) (M' := s_M0) rfl ?_
            refine s_ek_ret (o := some (.int (-11))) (fun _ => rfl) ?_
            show s_Ek (s_rows 3 L xs) 1299 s_e151.1 5 [(0, .ref 0), (1, .int 1)] [.int (-11)] s_M0 _
            refine s_ek_bk 4 (P := 11) (ls' := [(2, .int (-11)), (0, .ref 0), (1, .int 1)]) (st' := [.int (-11)]) (M' := s_M0) rfl ?_
            refine s_ek_ret (o := some (.int (-11))) (fun _ => rfl) ?_
            refine ⟨(-11), rfl, ?_⟩
            show s_Ek (s_rows 3 L xs) 1299 s_e255.1 0 [(0, .ref 151), (1, .int 1)] [] s_M0 _
            refine s_ek_bk 1 (P := 1) (ls' := [(0, .ref 151), (1, .int 1)]) (st' := [.int 1]) (M' := s_M0) rfl ?_
            refine s_ek_call (ν := s_e281.1) (P := 4) (as := [.int 1]) (r := []) (fun _ => rfl) rfl ?_
            show s_Ek (s_rows 3 L xs) 1298 s_e281.1 0 [(0, .int 1)] [] s_M0 _
            refine s_ek_bk 3 (P := 3) (ls' := [(0, .int 1)]) (st' := [.int 5, .int 0, .int 1]) (M' := s_M0) rfl ?_
            refine s_ek_call (ν := s_e181.1) (P := 6) (as := [.int 1, .int 0, .int 5]) (r := []) (fun _ => rfl) rfl ?_
            show s_Ek (s_rows 3 L xs) 1297 s_e181.1 0 [(0, .int 1), (1, .int 0), (2, .int 5)] [] s_M0 _
            refine s_ek_bk 8 (P := 15) (ls' := [(0, .int 1), (1, .int 0), (2, .int 5)]) (st' := [.int 1]) (M' := s_M0) rfl ?_
            refine s_ek_ret (o := some (.int 1)) (fun _ => rfl) ?_
            show s_Ek (s_rows 3 L xs) 1298 s_e281.1 6 [(0, .int 1)] [.int 1] s_M0 _
            refine s_ek_ret (o := some (.int 1)) (fun _ => rfl) ?_
            show s_Ek (s_rows 3 L xs) 1299 s_e255.1 4 [(0, .ref 151), (1, .int 1)] [.int 1] s_M0 _
            refine s_ek_bk 3 (P := 11) (ls' := [(0, .ref 151), (1, .int 1)]) (st' := [.int 1, .ref 151]) (M' := s_M0) rfl ?_
            refine s_ek_call (ν := s_e236.1) (P := 14) (as := [.ref 151, .int 1]) (r := []) (fun _ => rfl) rfl ?_
            show s_Ek (s_rows 3 L xs) 1298 s_e236.1 0 [(0, .ref 151), (1, .int 1)] [] s_M0 _
            refine s_ek_bk 8 (P := 32) (ls' := [(0, .ref 151), (1, .int 1)]) (st' := [.int (-11)]) (M' := s_M0) rfl ?_
            refine s_ek_ret (o := some (.int (-11))) (fun _ => rfl) ?_
            show s_Ek (s_rows 3 L xs) 1299 s_e255.1 14 [(0, .ref 151), (1, .int 1)] [.int (-11)] s_M0 _
            refine s_ek_bk 3 (P := 19) (ls' := [(0, .ref 151), (1, .int 1)]) (st' := [.int 1, .ref 151]) (M' := s_M0) rfl ?_
            refine s_ek_call (ν := s_e236.1) (P := 22) (as := [.ref 151, .int 1]) (r := []) (fun _ => rfl) rfl ?_
            show s_Ek (s_rows 3 L xs) 1298 s_e236.1 0 [(0, .ref 151), (1, .int 1)] [] s_M0 _
            refine s_ek_bk 8 (P := 32) (ls' := [(0, .ref 151), (1, .int 1)]) (st' := [.int (-11)]) (M' := s_M0) rfl ?_
            refine s_ek_ret (o := some (.int (-11))) (fun _ => rfl) ?_
            show s_Ek (s_rows 3 L xs) 1299 s_e255.1 22 [(0, .ref 151), (1, .int 1)] [.int (-11)] s_M0 _
            refine s_ek_ret (o := some (.int (-11))) (fun _ => rfl) ?_
            exact rfl
          · refine s_ek_bk 6 (P := 33) (ls' := [(0, .ref 0), (1, .int 2)]) (st' := [.ref 143]) (M' := s_M0) rfl ?_
            refine s_ek_ret (o := some (.ref 143)) (fun _ => rfl) ?_
            show s_Ek (s_rows 3 L xs) 1298 s_e177.1 14 [(0, .ref 0), (1, .int 2)] [.ref 143] s_M0 _
            refine s_ek_bk 2 (P := 16) (ls' := [(2, .ref 143), (0, .ref 0), (1, .int 2)]) (st' := [.ref 143]) (M' := s_M0) rfl ?_
            refine s_ek_call (ν := s_e84.1) (P := 19) (as := [.ref 143]) (r := []) (fun _ => rfl) rfl ?_
            show s_Ek (s_rows 3 L xs) 1297 s_e84.1 0 [(0, .ref 143)] [] s_M0 _
            refine s_ek_bk 6 (P := 13) (ls' := [(0, .ref 143)]) (st' := [.int 1]) (M' := s_M0) rfl ?_
            refine s_ek_ret (o := some (.int 1)) (fun _ => rfl) ?_
            show s_Ek (s_rows 3 L xs) 1298 s_e177.1 19 [(2, .ref 143), (0, .ref 0), (1, .int 2)] [.int 1] s_M0 _
            refine s_ek_bk 2 (P := 24) (ls' := [(2, .ref 143), (0, .ref 0), (1, .int 2)]) (st' := [.int (-11)]) (M' := s_M0) rfl ?_
            refine s_ek_ret (o := some (.int (-11))) (fun _ => rfl) ?_
            show s_Ek (s_rows 3 L xs) 1299 s_e151.1 5 [(0, .ref 0), (1, .int 2)] [.int (-11)] s_M0 _
            refine s_ek_bk 4 (P := 11) (ls' := [(2, .int (-11)), (0, .ref 0), (1, .int 2)]) (st' := [.int (-11)]) (M' := s_M0) rfl ?_
            refine s_ek_ret (o := some (.int (-11))) (fun _ => rfl) ?_
            refine ⟨(-11), rfl, ?_⟩
            show s_Ek (s_rows 3 L xs) 1299 s_e255.1 0 [(0, .ref 151), (1, .int 2)] [] s_M0 _
            refine s_ek_bk 1 (P := 1) (ls' := [(0, .ref 151), (1, .int 2)]) (st' := [.int 2]) (M' := s_M0) rfl ?_
            refine s_ek_call (ν := s_e281.1) (P := 4) (as := [.int 2]) (r := []) (fun _ => rfl) rfl ?_
            show s_Ek (s_rows 3 L xs) 1298 s_e281.1 0 [(0, .int 2)] [] s_M0 _
            refine s_ek_bk 3 (P := 3) (ls' := [(0, .int 2)]) (st' := [.int 5, .int 0, .int 2]) (M' := s_M0) rfl ?_
            refine s_ek_call (ν := s_e181.1) (P := 6) (as := [.int 2, .int 0, .int 5]) (r := []) (fun _ => rfl) rfl ?_
            show s_Ek (s_rows 3 L xs) 1297 s_e181.1 0 [(0, .int 2), (1, .int 0), (2, .int 5)] [] s_M0 _
            refine s_ek_bk 8 (P := 15) (ls' := [(0, .int 2), (1, .int 0), (2, .int 5)]) (st' := [.int 1]) (M' := s_M0) rfl ?_
            refine s_ek_ret (o := some (.int 1)) (fun _ => rfl) ?_
            show s_Ek (s_rows 3 L xs) 1298 s_e281.1 6 [(0, .int 2)] [.int 1] s_M0 _
            refine s_ek_ret (o := some (.int 1)) (fun _ => rfl) ?_
            show s_Ek (s_rows 3 L xs) 1299 s_e255.1 4 [(0, .ref 151), (1, .int 2)] [.int 1] s_M0 _
            refine s_ek_bk 3 (P := 11) (ls' := [(0, .ref 151), (1, .int 2)]) (st' := [.int 2, .ref 151]) (M' := s_M0) rfl ?_
            refine s_ek_call (ν := s_e236.1) (P := 14) (as := [.ref 151, .int 2]) (r := []) (fun _ => rfl) rfl ?_
            show s_Ek (s_rows 3 L xs) 1298 s_e236.1 0 [(0, .ref 151), (1, .int 2)] [] s_M0 _
            refine s_ek_bk 8 (P := 32) (ls' := [(0, .ref 151), (1, .int 2)]) (st' := [.int (-11)]) (M' := s_M0) rfl ?_
            refine s_ek_ret (o := some (.int (-11))) (fun _ => rfl) ?_
            show s_Ek (s_rows 3 L xs) 1299 s_e255.1 14 [(0, .ref 151), (1, .int 2)] [.int (-11)] s_M0 _
            refine s_ek_bk 3 (P := 19) (ls' := [(0, .ref 151), (1, .int 2)]) (st' := [.int 2, .ref 151]) (M' := s_M0) rfl ?_
            refine s_ek_call (ν := s_e236.1) (P := 22) (as := [.ref 151, .int 2]) (r := []) (fun _ => rfl) rfl ?_
            show s_Ek (s_rows 3 L xs) 1298 s_e236.1 0 [(0, .ref 151), (1, .int 2)] [] s_M0 _
            refine s_ek_bk 8 (P := 32) (ls' := [(0, .ref 151), (1, .int 2)]) (st' := [.int (-11)]) (M' := s_M0) rfl ?_
            refine s_ek_ret (o := some (.int (-11))) (fun _ => rfl) ?_
            show s_Ek (s_rows 3 L xs) 1299 s_e255.1 22 [(0, .ref 151), (1, .int 2)] [.int (-11)] s_M0 _
            refine s_ek_ret (o := some (.int (-11))) (fun _ => rfl) ?_
            exact rfl
          · refine s_ek_bk 6 (P := 33) (ls' := [(0, .ref 0), (1, .int 3)]) (st' := [.ref 145]) (M' := s_M0) rfl ?_
            refine s_ek_ret (o := some (.ref 145)) (fun _ => rfl) ?_
            show s_Ek (s_rows 3 L xs) 1298 s_e177.1 14 [(0, .ref 0), (1, .int 3)] [.ref 145] s_M0 _
            refine s_ek_bk 2 (P := 16) (ls' := [(2, .ref 145), (0, .ref 0), (1, .int 3)]) (st' := [.ref 145]) (M' := s_M0) rfl ?_
            refine s_ek_call (ν := s_e84.1) (P := 19) (as := [.ref 145]) (r := []) (fun _ => rfl) rfl ?_
            show s_Ek (s_rows 3 L xs) 1297 s_e84.1 0 [(0, .ref 145)] [] s_M0 _
            refine s_ek_bk 6 (P := 13) (ls' := [(0, .ref 145)]) (st' := [.int 1]) (M' := s_M0) rfl ?_
            refine s_ek_ret (o := some (.int 1)) (fun _ => rfl) ?_
            show s_Ek (s_rows 3 L xs) 1298 s_e177.1 19 [(2, .ref 145), (0, .ref 0), (1, .int 3)] [.int 1] s_M0 _
            refine s_ek_bk 2 (P := 24) (ls' := [(2, .ref 145), (0, .ref 0), (1, .int 3)]) (st' := [.int (-11)]) (M' := s_M0) rfl ?_
            refine s_ek_ret (o := some (.int (-11))) (fun _ => rfl) ?_
            show s_Ek (s_rows 3 L xs) 1299 s_e151.1 5 [(0, .ref 0), (1, .int 3)] [.int (-11)] s_M0 _
            refine s_ek_bk 4 (P := 11) (ls' := [(2, .int (-11)), (0, .ref 0), (1, .int 3)]) (st' := [.int (-11)]) (M' := s_M0) rfl ?_
            refine s_ek_ret (o := some (.int (-11))) (fun _ => rfl) ?_
            refine ⟨(-11), rfl, ?_⟩
            show s_Ek (s_rows 3 L xs) 1299 s_e255.1 0 [(0, .ref 151), (1, .int 3)] [] s_M0 _
            refine s_ek_bk 1 (P := 1) (ls' := [(0, .ref 151), (1, .int 3)]) (st' := [.int 3]) (M' := s_M0) rfl ?_
            refine s_ek_call (ν := s_e281.1) (P := 4) (as := [.int 3]) (r := []) (fun _ => rfl) rfl ?_
            show s_Ek (s_rows 3 L xs) 1298 s_e281.1 0 [(0, .int 3)] [] s_M0 _
            refine s_ek_bk 3 (P := 3) (ls' := [(0, .int 3)]) (st' := [.int 5, .int 0, .int 3]) (M' := s_M0) rfl ?_
            refine s_ek_call (ν := s_e181.1) (P := 6) (as := [.int 3, .int 0, .int 5]) (r := []) (fun _ => rfl) rfl ?_
            show s_Ek (s_rows 3 L xs) 1297 s_e181.1 0 [(0, .int 3), (1, .int 0), (2, .int 5)] [] s_M0 _
            refine s_ek_bk 8 (P := 15) (ls' := [(0, .int 3), (1, .int 0), (2, .int 5)]) (st' := [.int 1]) (M' := s_M0) rfl ?_
            refine s_ek_ret (o := some (.int 1)) (fun _ => rfl) ?_
            show s_Ek (s_rows 3 L xs) 1298 s_e281.1 6 [(0, .int 3)] [.int 1] s_M0 _
            refine s_ek_ret (o := some (.int 1)) (fun _ => rfl) ?_
            show s_Ek (s_rows 3 L xs) 1299 s_e255.1 4 [(0, .ref 151), (1, .int 3)] [.int 1] s_M0 _
            refine s_ek_bk 3 (P := 11) (ls' := [(0, .ref 151), (1, .int 3)]) (st' := [.int 3, .ref 151]) (M' := s_M0) rfl ?_
            refine s_ek_call (ν := s_e236.1) (P := 14) (as := [.ref 151, .int 3]) (r := []) (fun _ => rfl) rfl ?_
            show s_Ek (s_rows 3 L xs) 1298 s_e236.1 0 [(0, .ref 151), (1, .int 3)] [] s_M0 _
            refine s_ek_bk 8 (P := 32) (ls' := [(0, .ref 151), (1, .int 3)]) (st' := [.int (-11)]) (M' := s_M0) rfl ?_
            refine s_ek_ret (o := some (.int (-11))) (fun _ => rfl) ?_
            show s_Ek (s_rows 3 L xs) 1299 s_e255.1 14 [(0, .ref 151), (1, .int 3)] [.int (-11)] s_M0 _
            refine s_ek_bk 3 (P := 19) (ls' := [(0, .ref 151), (1, .int 3)]) (st' := [.int 3, .ref 151]) (M' := s_M0) rfl ?_
            refine s_ek_call (ν := s_e236.1) (P := 22) (as := [.ref 151, .int 3]) (r := []) (fun _ => rfl) rfl ?_
            show s_Ek (s_rows 3 L xs) 1298 s_e236.1 0 [(0, .ref 151), (1, .int 3)] [] s_M0 _
            refine s_ek_bk 8 (P := 32) (ls' := [(0, .ref 151), (1, .int 3)]) (st' := [.int (-11)]) (M' := s_M0) rfl ?_
            refine s_ek_ret (o := some (.int (-11))) (fun _ => rfl) ?_
            show s_Ek (s_rows 3 L xs) 1299 s_e255.1 22 [(0, .ref 151), (1, .int 3)] [.int (-11)] s_M0 _
            refine s_ek_ret (o := some (.int (-11))) (fun _ => rfl) ?_
            exact rfl
          · refine s_ek_bk 6 (P := 33) (ls' := [(0, .ref 0), (1, .int 4)]) (st' := [.ref 147]) (M' := s_M0) rfl ?_
            refine s_ek_ret (o := some (.ref 147)) (fun _ => rfl) ?_
            show s_Ek (s_rows 3 L xs) 1298 s_e177.1 14 [(0, .ref 0), (1, .int 4)] [.ref 147] s_M0 _
            refine s_ek_bk 2 (P := 16) (ls' := [(2, .ref 147), (0, .ref 0), (1, .int 4)]) (st' := [.ref 147]) (M' := s_M0) rfl ?_
            refine s_ek_call (ν := s_e84.1) (P := 19) (as := [.ref 147]) (r := []) (fun _ => rfl) rfl ?_
            show s_Ek (s_rows 3 L xs) 1297 s_e84.1 0 [(0, .ref 147)] [] s_M0 _
            refine s_ek_bk 6 (P := 13) (ls' := [(0, .ref 147)]) (st' := [.int 1]) (M' := s_M0) rfl ?_
            refine s_ek_ret (o := some (.int 1)) (fun _ => rfl) ?_
            show s_Ek (s_rows 3 L xs) 1298 s_e177.1 19 [(2, .ref 147), (0, .ref 0), (1, .int 4)] [.int 1] s_M0 _
            refine s_ek_bk 2 (P := 24) (ls' := [(2, .ref 147), (0, .ref 0), (1, .int 4)]) (st' := [.int (-11)]) (M' := s_M0) rfl ?_
            refine s_ek_ret (o := some (.int (-11))) (fun _ => rfl) ?_
            show s_Ek (s_rows 3 L xs) 1299 s_e151.1 5 [(0, .ref 0), (1, .int 4)] [.int (-11)] s_M0 _
            refine s_ek_bk 4 (P := 11) (ls' := [(2, .int (-11)), (0, .ref 0), (1, .int 4)]) (st' := [.int (-11)]) (M' := s_M0) rfl ?_
            refine s_ek_ret (o := some (.int (-11))) (fun _ => rfl) ?_
            refine ⟨(-11), rfl, ?_⟩
            show s_Ek (s_rows 3 L xs) 1299 s_e255.1 0 [(0, .ref 151), (1, .int 4)] [] s_M0 _
            refine s_ek_bk 1 (P := 1) (ls' := [(0, .ref 151), (1, .int 4)]) (st' := [.int 4]) (M' := s_M0) rfl ?_
            refine s_ek_call (ν := s_e281.1) (P := 4) (as := [.int 4]) (r := []) (fun _ => rfl) rfl ?_
            show s_Ek (s_rows 3 L xs) 1298 s_e281.1 0 [(0, .int 4)] [] s_M0 _
            refine s_ek_bk 3 (P := 3) (ls' := [(0, .int 4)]) (st' := [.int 5, .int 0, .int 4]) (M' := s_M0) rfl ?_
            refine s_ek_call (ν := s_e181.1) (P := 6) (as := [.int 4, .int 0, .int 5]) (r := []) (fun _ => rfl) rfl ?_
            show s_Ek (s_rows 3 L xs) 1297 s_e181.1 0 [(0, .int 4), (1, .int 0), (2, .int 5)] [] s_M0 _
            refine s_ek_bk 8 (P := 15) (ls' := [(0, .int 4), (1, .int 0), (2, .int 5)]) (st' := [.int 1]) (M' := s_M0) rfl ?_
            refine s_ek_ret (o := some (.int 1)) (fun _ => rfl) ?_
            show s_Ek (s_rows 3 L xs) 1298 s_e281.1 6 [(0, .int 4)] [.int 1] s_M0 _
            refine s_ek_ret (o := some (.int 1)) (fun _ => rfl) ?_
            show s_Ek (s_rows 3 L xs) 1299 s_e255.1 4 [(0, .ref 151), (1, .int 4)] [.int 1] s_M0 _
            refine s_ek_bk 3 (P := 11) (ls' := [(0, .ref 151), (1, .int 4)]) (st' := [.int 4, .ref 151]) (M' := s_M0) rfl ?_
            refine s_ek_call (ν := s_e236.1) (P := 14) (as := [.ref 151, .int 4]) (r := []) (fun _ => rfl) rfl ?_
            show s_Ek (s_rows 3 L xs) 1298 s_e236.1 0 [(0, .ref 151), (1, .int 4)] [] s_M0 _
            refine s_ek_bk 8 (P := 32) (ls' := [(0, .ref 151), (1, .int 4)]) (st' := [.int (-11)]) (M' := s_M0) rfl ?_
            refine s_ek_ret (o := some (.int (-11))) (fun _ => rfl) ?_
            show s_Ek (s_rows 3 L xs) 1299 s_e255.1 14 [(0, .ref 151), (1, .int 4)] [.int (-11)] s_M0 _
            refine s_ek_bk 3 (P := 19) (ls' := [(0, .ref 151), (1, .int 4)]) (st' := [.int 4, .ref 151]) (M' := s_M0) rfl ?_
            refine s_ek_call (ν := s_e236.1) (P := 22) (as := [.ref 151, .int 4]) (r := []) (fun _ => rfl) rfl ?_
            show s_Ek (s_rows 3 L xs) 1298 s_e236.1 0 [(0, .ref 151), (1, .int 4)] [] s_M0 _
            refine s_ek_bk 8 (P := 32) (ls' := [(0, .ref 151), (1, .int 4)]) (st' := [.int (-11)]) (M' := s_M0) rfl ?_
            refine s_ek_ret (o := some (.int (-11))) (fun _ => rfl) ?_
            show s_Ek (s_rows 3 L xs) 1299 s_e255.1 22 [(0, .ref 151), (1, .int 4)] [.int (-11)] s_M0 _
            refine s_ek_ret (o := some (.int (-11))) (fun _ => rfl) ?_
            exact rfl
          · refine s_ek_bk 6 (P := 33) (ls' := [(0, .ref 0), (1, .int 5)]) (st' := [.ref 149]) (M' := s_M0) rfl ?_
            refine s_ek_ret (o := some (.ref 149)) (fun _ => rfl) ?_
            show s_Ek (s_rows 3 L xs) 1298 s_e177.1 14 [(0, .ref 0), (1, .int 5)] [.ref 149] s_M0 _
            refine s_ek_bk 2 (P := 16) (ls' := [(2, .ref 149), (0, .ref 0), (1, .int 5)]) (st' := [.ref 149]) (M' := s_M0) rfl ?_
            refine s_ek_call (ν := s_e84.1) (P := 19) (as := [.ref 149]) (r := []) (fun _ => rfl) rfl ?_
            show s_Ek (s_rows 3 L xs) 1297 s_e84.1 0 [(0, .ref 149)] [] s_M0 _
            refine s_ek_bk 6 (P := 13) (ls' := [(0, .ref 149)]) (st' := [.int 1]) (M' := s_M0) rfl ?_
            refine s_ek_ret (o := some (.int 1)) (fun _ => rfl) ?_
            show s_Ek (s_rows 3 L xs) 1298 s_e177.1 19 [(2, .ref 149), (0, .ref 0), (1, .int 5)] [.int 1] s_M0 _
            refine s_ek_bk 2 (P := 24) (ls' := [(2, .ref 149), (0, .ref 0), (1, .int 5)]) (st' := [.int (-11)]) (M' := s_M0) rfl ?_
            refine s_ek_ret (o := some (.int (-11))) (fun _ => rfl) ?_
            show s_Ek (s_rows 3 L xs) 1299 s_e151.1 5 [(0, .ref 0), (1, .int 5)] [.int (-11)] s_M0 _
            refine s_ek_bk 4 (P := 11) (ls' := [(2, .int (-11)), (0, .ref 0), (1, .int 5)]) (st' := [.int (-11)]) (M' := s_M0) rfl ?_
            refine s_ek_ret (o := some (.int (-11))) (fun _ => rfl) ?_
            refine ⟨(-11), rfl, ?_⟩
            show s_Ek (s_rows 3 L xs) 1299 s_e255.1 0 [(0, .ref 151), (1, .int 5)] [] s_M0 _
            refine s_ek_bk 1 (P := 1) (ls' := [(0, .ref 151), (1, .int 5)]) (st' := [.int 5]) (M' := s_M0) rfl ?_
            refine s_ek_call (ν := s_e281.1) (P := 4) (as := [.int 5]) (r := []) (fun _ => rfl) rfl ?_
            show s_Ek (s_rows 3 L xs) 1298 s_e281.1 0 [(0, .int 5)] [] s_M0 _
            refine s_ek_bk 3 (P := 3) (ls' := [(0, .int 5)]) (st' := [.int 5, .int 0, .int 5]) (M' := s_M0) rfl ?_
            refine s_ek_call (ν := s_e181.1) (P := 6) (as := [.int 5, .int 0, .int 5]) (r := []) (fun _ => rfl) rfl ?_
            show s_Ek (s_rows 3 L xs) 1297 s_e181.1 0 [(0, .int 5), (1, .int 0), (2, .int 5)] [] s_M0 _
            refine s_ek_bk 8 (P := 15) (ls' := [(0, .int 5), (1, .int 0), (2, .int 5)]) (st' := [.int 1]) (M' := s_M0) rfl ?_
            refine s_ek_ret (o := some (.int 1)) (fun _ => rfl) ?_
            show s_Ek (s_rows 3 L xs) 1298 s_e281.1 6 [(0, .int 5)] [.int 1] s_M0 _
            refine s_ek_ret (o := some (.int 1)) (fun _ => rfl) ?_
            show s_Ek (s_rows 3 L xs) 1299 s_e255.1 4 [(0, .ref 151), (1, .int 5)] [.int 1] s_M0 _
            refine s_ek_bk 3 (P := 11) (ls' := [(0, .ref 151), (1, .int 5)]) (st' := [.int 5, .ref 151]) (M' := s_M0) rfl ?_
            refine s_ek_call (ν := s_e236.1) (P := 14) (as := [.ref 151, .int 5]) (r := []) (fun _ => rfl) rfl ?_
            show s_Ek (s_rows 3 L xs) 1298 s_e236.1 0 [(0, .ref 151), (1, .int 5)] [] s_M0 _
            refine s_ek_bk 8 (P := 32) (ls' := [(0, .ref 151), (1, .int 5)]) (st' := [.int (-11)]) (M' := s_M0) rfl ?_
            refine s_ek_ret (o := some (.int (-11))) (fun _ => rfl) ?_
            show s_Ek (s_rows 3 L xs) 1299 s_e255.1 14 [(0, .ref 151), (1, .int 5)] [.int (-11)] s_M0 _
            refine s_ek_bk 3 (P := 19) (ls' := [(0, .ref 151), (1, .int 5)]) (st' := [.int 5, .ref 151]) (M' := s_M0) rfl ?_
            refine s_ek_call (ν := s_e236.1) (P := 22) (as := [.ref 151, .int 5]) (r := []) (fun _ => rfl) rfl ?_
            show s_Ek (s_rows 3 L xs) 1298 s_e236.1 0 [(0, .ref 151), (1, .int 5)] [] s_M0 _
            refine s_ek_bk 8 (P := 32) (ls' := [(0, .ref 151), (1, .int 5)]) (st' := [.int (-11)]) (M' := s_M0) rfl ?_
            refine s_ek_ret (o := some (.int (-11))) (fun _ => rfl) ?_
            show s_Ek (s_rows 3 L xs) 1299 s_e255.1 22 [(0, .ref 151), (1, .int 5)] [.int (-11)] s_M0 _
            refine s_ek_ret (o := some (.int (-11))) (fun _ => rfl) ?_
            exact rfl
set_option maxHeartbeats 20000000 in
set_option maxRecDepth 100000 in
theorem s_op_under (L : Nat) (xs : Nat → Int32) (a : Int32) (b : Int32) : s_Ek (s_rows 3 L xs) 1299 s_e152.1 0 (lv_args 0 [.ref 0, .int a, .int b]) [] s_M0 (fun v M1 => ∃ r : Int32, v = some (.int r) ∧ s_Ek (s_rows 3 L xs) 1299 s_e256.1 0 (lv_args 0 [.ref 151, .int a, .int b]) [] M1 (fun w _ => w = some (.int r))) := by
  show s_Ek (s_rows 3 L xs) 1299 s_e152.1 0 [(0, .ref 0), (1, .int a), (2, .int b)] [] s_M0 _
  refine s_ek_bk 3 (P := 5) (ls' := [(0, .ref 0), (1, .int a), (2, .int b)]) (st' := [.int a, .ref 8]) (M' := s_M0) rfl ?_
  refine s_ek_call (ν := s_e40.1) (P := 8) (as := [.ref 8, .int a]) (r := []) (fun _ => rfl) rfl ?_
  show s_Ek (s_rows 3 L xs) 1298 s_e40.1 0 [(0, .ref 8), (1, .int a)] [] s_M0 _
  refine s_ek_bk 1 (P := 1) (ls' := [(0, .ref 8), (1, .int a)]) (st' := [.int a]) (M' := s_M0) rfl ?_
  refine s_ek_if1 (T := 16) rfl rfl (fun h1 => ?_) (fun h1 => ?_)
  · replace h1 : a.toInt < 0 := h1
    refine s_ek_bk 1 (P := 17) (ls' := [(0, .ref 8), (1, .int a)]) (st' := [.int 0]) (M' := s_M0) rfl ?_
    refine s_ek_ret (o := some (.int 0)) (fun _ => rfl) ?_
    show s_Ek (s_rows 3 L xs) 1299 s_e152.1 8 [(0, .ref 0), (1, .int a), (2, .int b)] [.int 0] s_M0 _
    refine s_ek_bk 2 (P := 19) (ls' := [(0, .ref 0), (1, .int a), (2, .int b)]) (st' := [.int (-1)]) (M' := s_M0) rfl ?_
    refine s_ek_ret (o := some (.int (-1))) (fun _ => rfl) ?_
    refine ⟨(-1), rfl, ?_⟩
    show s_Ek (s_rows 3 L xs) 1299 s_e256.1 0 [(0, .ref 151), (1, .int a), (2, .int b)] [] s_M0 _
    refine s_ek_bk 2 (P := 2) (ls' := [(0, .ref 151), (1, .int a), (2, .int b)]) (st' := [.int a, .ref 151]) (M' := s_M0) rfl ?_
    refine s_ek_call (ν := s_e201.1) (P := 5) (as := [.ref 151, .int a]) (r := []) (fun _ => rfl) rfl ?_
    show s_Ek (s_rows 3 L xs) 1298 s_e201.1 0 [(0, .ref 151), (1, .int a)] [] s_M0 _
    refine s_ek_bk 6 (P := 8) (ls' := [(0, .ref 151), (1, .int a)]) (st' := [.int (-1), .int 0, .int a]) (M' := s_M0) rfl ?_
    refine s_ek_call (ν := s_e181.1) (P := 11) (as := [.int a, .int 0, .int (-1)]) (r := []) (fun _ => rfl) rfl ?_
    show s_Ek (s_rows 3 L xs) 1297 s_e181.1 0 [(0, .int a), (1, .int 0), (2, .int (-1))] [] s_M0 _
    refine s_ek_bk 2 (P := 2) (ls' := [(0, .int a), (1, .int 0), (2, .int (-1))]) (st' := [.int 0, .int a]) (M' := s_M0) rfl ?_
    refine s_ek_if2 (T := 14) rfl rfl (fun h2 => ?_) (fun h2 => ?_)
    · replace h2 : a.toInt < 0 := h2
      refine s_ek_bk 1 (P := 15) (ls' := [(0, .int a), (1, .int 0), (2, .int (-1))]) (st' := [.int 0]) (M' := s_M0) rfl ?_
      refine s_ek_ret (o := some (.int 0)) (fun _ => rfl) ?_
      show s_Ek (s_rows 3 L xs) 1298 s_e201.1 11 [(0, .ref 151), (1, .int a)] [.int 0] s_M0 _
      refine s_ek_ret (o := some (.int 0)) (fun _ => rfl) ?_
      show s_Ek (s_rows 3 L xs) 1299 s_e256.1 5 [(0, .ref 151), (1, .int a), (2, .int b)] [.int 0] s_M0 _
      refine s_ek_bk 2 (P := 18) (ls' := [(0, .ref 151), (1, .int a), (2, .int b)]) (st' := [.int (-1)]) (M' := s_M0) rfl ?_
      refine s_ek_ret (o := some (.int (-1))) (fun _ => rfl) ?_
      exact rfl
    · replace h2 : ¬ (a.toInt < 0) := h2
      replace h2 : 0 ≤ a.toInt := by omega
      omega
  · replace h1 : ¬ (a.toInt < 0) := h1
    replace h1 : 0 ≤ a.toInt := by omega
    refine s_ek_bk 3 (P := 9) (ls' := [(0, .ref 8), (1, .int a)]) (st' := [.int 0, .int a]) (M' := s_M0) rfl ?_
    refine s_ek_if2 (T := 16) rfl rfl (fun h2 => ?_) (fun h2 => ?_)
    · replace h2 : 0 ≤ a.toInt := h2
      refine s_ek_bk 1 (P := 17) (ls' := [(0, .ref 8), (1, .int a)]) (st' := [.int 0]) (M' := s_M0) rfl ?_
      refine s_ek_ret (o := some (.int 0)) (fun _ => rfl) ?_
      show s_Ek (s_rows 3 L xs) 1299 s_e152.1 8 [(0, .ref 0), (1, .int a), (2, .int b)] [.int 0] s_M0 _
      refine s_ek_bk 2 (P := 19) (ls' := [(0, .ref 0), (1, .int a), (2, .int b)]) (st' := [.int (-1)]) (M' := s_M0) rfl ?_
      refine s_ek_ret (o := some (.int (-1))) (fun _ => rfl) ?_
      refine ⟨(-1), rfl, ?_⟩
      show s_Ek (s_rows 3 L xs) 1299 s_e256.1 0 [(0, .ref 151), (1, .int a), (2, .int b)] [] s_M0 _
      refine s_ek_bk 2 (P := 2) (ls' := [(0, .ref 151), (1, .int a), (2, .int b)]) (st' := [.int a, .ref 151]) (M' := s_M0) rfl ?_
      refine s_ek_call (ν := s_e201.1) (P := 5) (as := [.ref 151, .int a]) (r := []) (fun _ => rfl) rfl ?_
      show s_Ek (s_rows 3 L xs) 1298 s_e201.1 0 [(0, .ref 151), (1, .int a)] [] s_M0 _
      refine s_ek_bk 6 (P := 8) (ls' := [(0, .ref 151), (1, .int a)]) (st' := [.int (-1), .int 0, .int a]) (M' := s_M0) rfl ?_
      refine s_ek_call (ν := s_e181.1) (P := 11) (as := [.int a, .int 0, .int (-1)]) (r := []) (fun _ => rfl) rfl ?_
      show s_Ek (s_rows 3 L xs) 1297 s_e181.1 0 [(0, .int a), (1, .int 0), (2, .int (-1))] [] s_M0 _
      refine s_ek_bk 2 (P := 2) (ls' := [(0, .int a), (1, .int 0), (2, .int (-1))]) (st' := [.int 0, .int a]) (M' := s_M0) rfl ?_
      refine s_ek_if2 (T := 14) rfl rfl (fun h3 => ?_) (fun h3 => ?_)
      · replace h3 : a.toInt < 0 := h3
        omega
      · replace h3 : ¬ (a.toInt < 0) := h3
        replace h3 : 0 ≤ a.toInt := by omega
        refine s_ek_bk 2 (P := 7) (ls' := [(0, .int a), (1, .int 0), (2, .int (-1))]) (st' := [.int (-1), .int a]) (M' := s_M0) rfl ?_
        refine s_ek_if2 (T := 14) rfl rfl (fun h4 => ?_) (fun h4 => ?_)
        · replace h4 : (-1) < a.toInt := h4
          refine s_ek_bk 1 (P := 15) (ls' := [(0, .int a), (1, .int 0), (2, .int (-1))]) (st' := [.int 0]) (M' := s_M0) rfl ?_
          refine s_ek_ret (o := some (.int 0)) (fun _ => rfl) ?_
          show s_Ek (s_rows 3 L xs) 1298 s_e201.1 11 [(0, .ref 151), (1, .int a)] [.int 0] s_M0 _
          refine s_ek_ret (o := some (.int 0)) (fun _ => rfl) ?_
          show s_Ek (s_rows 3 L xs) 1299 s_e256.1 5 [(0, .ref 151), (1, .int a), (2, .int b)] [.int 0] s_M0 _
          refine s_ek_bk 2 (P := 18) (ls' := [(0, .ref 151), (1, .int a), (2, .int b)]) (st' := [.int (-1)]) (M' := s_M0) rfl ?_
          refine s_ek_ret (o := some (.int (-1))) (fun _ => rfl) ?_
          exact rfl
        · replace h4 : ¬ ((-1) < a.toInt) := h4
          replace h4 : a.toInt ≤ (-1) := by omega
          omega
    · replace h2 : ¬ (0 ≤ a.toInt) := h2
      replace h2 : a.toInt < 0 := by omega
      omega
set_option maxHeartbeats 20000000 in
set_option maxRecDepth 100000 in
theorem s_op_body (L : Nat) (xs : Nat → Int32) (a : Int32) : s_Ek (s_rows 3 L xs) 1299 s_e159.1 0 (lv_args 0 [.ref 0, .int a]) [] s_M0 (fun v M1 => ∃ r : Int32, v = some (.int r) ∧ s_Ek (s_rows 3 L xs) 1299 s_e265.1 0 (lv_args 0 [.ref 151, .int a]) [] M1 (fun w _ => w = some (.int r))) := by
  show s_Ek (s_rows 3 L xs) 1299 s_e159.1 0 [(0, .ref 0), (1, .int a)] [] s_M0 _
  refine s_ek_bk 1 (P := 1) (ls' := [(0, .ref 0), (1, .int a)]) (st' := [.int a]) (M' := s_M0) rfl ?_
  refine s_ek_call (ν := s_e25.1) (P := 4) (as := [.int a]) (r := []) (fun _ => rfl) rfl ?_
  show s_Ek (s_rows 3 L xs) 1298 s_e25.1 0 [(0, .int a)] [] s_M0 _
  refine s_ek_bk 1 (P := 1) (ls' := [(0, .int a)]) (st' := [.int a]) (M' := s_M0) rfl ?_
  refine s_ek_if1 (T := 14) rfl rfl (fun h1 => ?_) (fun h1 => ?_)
  · replace h1 : a.toInt < 0 := h1
    refine s_ek_bk 1 (P := 15) (ls' := [(0, .int a)]) (st' := [.int 0]) (M' := s_M0) rfl ?_
    refine s_ek_ret (o := some (.int 0)) (fun _ => rfl) ?_
    show s_Ek (s_rows 3 L xs) 1299 s_e159.1 4 [(0, .ref 0), (1, .int a)] [.int 0] s_M0 _
    refine s_ek_bk 2 (P := 8) (ls' := [(0, .ref 0), (1, .int a)]) (st' := [.int (-1)]) (M' := s_M0) rfl ?_
    refine s_ek_ret (o := some (.int (-1))) (fun _ => rfl) ?_
    refine ⟨(-1), rfl, ?_⟩
    show s_Ek (s_rows 3 L xs) 1299 s_e265.1 0 [(0, .ref 151), (1, .int a)] [] s_M0 _
    refine s_ek_bk 3 (P := 4) (ls' := [(0, .ref 151), (1, .int a)]) (st' := [.int 7, .int 0, .int a]) (M' := s_M0) rfl ?_
    refine s_ek_call (ν := s_e181.1) (P := 7) (as := [.int a, .int 0, .int 7]) (r := []) (fun _ => rfl) rfl ?_
    show s_Ek (s_rows 3 L xs) 1298 s_e181.1 0 [(0, .int a), (1, .int 0), (2, .int 7)] [] s_M0 _
    refine s_ek_bk 2 (P := 2) (ls' := [(0, .int a), (1, .int 0), (2, .int 7)]) (st' := [.int 0, .int a]) (M' := s_M0) rfl ?_
    refine s_ek_if2 (T := 14) rfl rfl (fun h2 => ?_) (fun h2 => ?_)
    · replace h2 : a.toInt < 0 := h2
      refine s_ek_bk 1 (P := 15) (ls' := [(0, .int a), (1, .int 0), (2, .int 7)]) (st' := [.int 0]) (M' := s_M0) rfl ?_
      refine s_ek_ret (o := some (.int 0)) (fun _ => rfl) ?_
      show s_Ek (s_rows 3 L xs) 1299 s_e265.1 7 [(0, .ref 151), (1, .int a)] [.int 0] s_M0 _
      refine s_ek_bk 2 (P := 11) (ls' := [(0, .ref 151), (1, .int a)]) (st' := [.int (-1)]) (M' := s_M0) rfl ?_
      refine s_ek_ret (o := some (.int (-1))) (fun _ => rfl) ?_
      exact rfl
    · replace h2 : ¬ (a.toInt < 0) := h2
      replace h2 : 0 ≤ a.toInt := by omega
      omega
  · replace h1 : ¬ (a.toInt < 0) := h1
    replace h1 : 0 ≤ a.toInt := by omega
    refine s_ek_bk 2 (P := 7) (ls' := [(0, .int a)]) (st' := [.int 8, .int a]) (M' := s_M0) rfl ?_
    refine s_ek_if2 (T := 14) rfl rfl (fun h2 => ?_) (fun h2 => ?_)
    · replace h2 : 8 ≤ a.toInt := h2
      refine s_ek_bk 1 (P := 15) (ls' := [(0, .int a)]) (st' := [.int 0]) (M' := s_M0) rfl ?_
      refine s_ek_ret (o := some (.int 0)) (fun _ => rfl) ?_
      show s_Ek (s_rows 3 L xs) 1299 s_e159.1 4 [(0, .ref 0), (1, .int a)] [.int 0] s_M0 _
      refine s_ek_bk 2 (P := 8) (ls' := [(0, .ref 0), (1, .int a)]) (st' := [.int (-1)]) (M' := s_M0) rfl ?_
      refine s_ek_ret (o := some (.int (-1))) (fun _ => rfl) ?_
      refine ⟨(-1), rfl, ?_⟩
      show s_Ek (s_rows 3 L xs) 1299 s_e265.1 0 [(0, .ref 151), (1, .int a)] [] s_M0 _
      refine s_ek_bk 3 (P := 4) (ls' := [(0, .ref 151), (1, .int a)]) (st' := [.int 7, .int 0, .int a]) (M' := s_M0) rfl ?_
      refine s_ek_call (ν := s_e181.1) (P := 7) (as := [.int a, .int 0, .int 7]) (r := []) (fun _ => rfl) rfl ?_
      show s_Ek (s_rows 3 L xs) 1298 s_e181.1 0 [(0, .int a), (1, .int 0), (2, .int 7)] [] s_M0 _
      refine s_ek_bk 2 (P := 2) (ls' := [(0, .int a), (1, .int 0), (2, .int 7)]) (st' := [.int 0, .int a]) (M' := s_M0) rfl ?_
      refine s_ek_if2 (T := 14) rfl rfl (fun h3 => ?_) (fun h3 => ?_)
      · replace h3 : a.toInt < 0 := h3
        omega
      · replace h3 : ¬ (a.toInt < 0) := h3
        replace h3 : 0 ≤ a.toInt := by omega
        refine s_ek_bk 2 (P := 7) (ls' := [(0, .int a), (1, .int 0), (2, .int 7)]) (st' := [.int 7, .int a]) (M' := s_M0) rfl ?_
        refine s_ek_if2 (T := 14) rfl rfl (fun h4 => ?_) (fun h4 => ?_)
        · replace h4 : 7 < a.toInt := h4
          refine s_ek_bk 1 (P := 15) (ls' := [(0, .int a), (1, .int 0), (2, .int 7)]) (st' := [.int 0]) (M' := s_M0) rfl ?_
          refine s_ek_ret (o := some (.int 0)) (fun _ => rfl) ?_
          show s_Ek (s_rows 3 L xs) 1299 s_e265.1 7 [(0, .ref 151), (1, .int a)] [.int 0] s_M0 _
          refine s_ek_bk 2 (P := 11) (ls' := [(0, .ref 151), (1, .int a)]) (st' := [.int (-1)]) (M' := s_M0) rfl ?_
          refine s_ek_ret (o := some (.int (-1))) (fun _ => rfl) ?_
          exact rfl
        · replace h4 : ¬ (7 < a.toInt) := h4
          replace h4 : a.toInt ≤ 7 := by omega
          omega
    · replace h2 : ¬ (8 ≤ a.toInt) := h2
      replace h2 : a.toInt < 8 := by omega
      refine s_ek_bk 2 (P := 15) (ls' := [(0, .int a)]) (st' := [.int 1]) (M' := s_M0) rfl ?_
      refine s_ek_ret (o := some (.int 1)) (fun _ => rfl) ?_
      show s_Ek (s_rows 3 L xs) 1299 s_e159.1 4 [(0, .ref 0), (1, .int a)] [.int 1] s_M0 _
      refine s_ek_bk 4 (P := 14) (ls' := [(0, .ref 0), (1, .int a)]) (st' := [.int a, .ref 132]) (M' := s_M0) rfl ?_
      refine s_ek_call (ν := s_e28.1) (P := 17) (as := [.ref 132, .int a]) (r := []) (fun _ => rfl) rfl ?_
      show s_Ek (s_rows 3 L xs) 1298 s_e28.1 0 [(0, .ref 132), (1, .int a)] [] s_M0 _
      refine s_ek_bk 15 (P := 31) (ls' := [(0, .ref 132), (1, .int a)]) (st' := []) (M' := (s_M0.set 133 (13, ((List.replicate 50 (Value.int 0)).set 0 (Value.int a))))) rfl ?_
      refine s_ek_bk 6 (P := 41) (ls' := [(0, .ref 132), (1, .int a)]) (st' := []) (M' := ((s_M0.set 133 (13, ((List.replicate 50 (Value.int 0)).set 0 (Value.int a)))).set 132 (2, ([Value.int 0, Value.int 0, Value.ref 133, Value.ref 134].set 0 (Value.int 1))))) rfl ?_
      refine s_ek_bk 4 (P := 47) (ls' := [(0, .ref 132), (1, .int a)]) (st' := [.int 0]) (M' := ((s_M0.set 133 (13, ((List.replicate 50 (Value.int 0)).set 0 (Value.int a)))).set 132 (2, ([Value.int 0, Value.int 0, Value.ref 133, Value.ref 134].set 0 (Value.int 1))))) rfl ?_
      refine s_ek_ret (o := some (.int 0)) (fun _ => rfl) ?_
      show s_Ek (s_rows 3 L xs) 1299 s_e159.1 17 [(0, .ref 0), (1, .int a)] [.int 0] ((s_M0.set 133 (13, ((List.replicate 50 (Value.int 0)).set 0 (Value.int a)))).set 132 (2, ([Value.int 0, Value.int 0, Value.ref 133, Value.ref 134].set 0 (Value.int 1)))) _
      refine s_ek_bk 4 (P := 28) (ls' := [(2, .int 0), (0, .ref 0), (1, .int a)]) (st' := [.int 0]) (M' := ((s_M0.set 133 (13, ((List.replicate 50 (Value.int 0)).set 0 (Value.int a)))).set 132 (2, ([Value.int 0, Value.int 0, Value.ref 133, Value.ref 134].set 0 (Value.int 1))))) rfl ?_
      refine s_ek_ret (o := some (.int 0)) (fun _ => rfl) ?_
      refine ⟨0, rfl, ?_⟩
      show s_Ek (s_rows 3 L xs) 1299 s_e265.1 0 [(0, .ref 151), (1, .int a)] [] ((s_M0.set 133 (13, ((List.replicate 50 (Value.int 0)).set 0 (Value.int a)))).set 132 (2, ([Value.int 0, Value.int 0, Value.ref 133, Value.ref 134].set 0 (Value.int 1)))) _
      refine s_ek_bk 3 (P := 4) (ls' := [(0, .ref 151), (1, .int a)]) (st' := [.int 7, .int 0, .int a]) (M' := ((s_M0.set 133 (13, ((List.replicate 50 (Value.int 0)).set 0 (Value.int a)))).set 132 (2, ([Value.int 0, Value.int 0, Value.ref 133, Value.ref 134].set 0 (Value.int 1))))) rfl ?_
      refine s_ek_call (ν := s_e181.1) (P := 7) (as := [.int a, .int 0, .int 7]) (r := []) (fun _ => rfl) rfl ?_
      show s_Ek (s_rows 3 L xs) 1298 s_e181.1 0 [(0, .int a), (1, .int 0), (2, .int 7)] [] ((s_M0.set 133 (13, ((List.replicate 50 (Value.int 0)).set 0 (Value.int a)))).set 132 (2, ([Value.int 0, Value.int 0, Value.ref 133, Value.ref 134].set 0 (Value.int 1)))) _
      refine s_ek_bk 2 (P := 2) (ls' := [(0, .int a), (1, .int 0), (2, .int 7)]) (st' := [.int 0, .int a]) (M' := ((s_M0.set 133 (13, ((List.replicate 50 (Value.int 0)).set 0 (Value.int a)))).set 132 (2, ([Value.int 0, Value.int 0, Value.ref 133, Value.ref 134].set 0 (Value.int 1))))) rfl ?_
      refine s_ek_if2 (T := 14) rfl rfl (fun h3 => ?_) (fun h3 => ?_)
      · replace h3 : a.toInt < 0 := h3
        omega
      · replace h3 : ¬ (a.toInt < 0) := h3
        replace h3 : 0 ≤ a.toInt := by omega
        refine s_ek_bk 2 (P := 7) (ls' := [(0, .int a), (1, .int 0), (2, .int 7)]) (st' := [.int 7, .int a]) (M' := ((s_M0.set 133 (13, ((List.replicate 50 (Value.int 0)).set 0 (Value.int a)))).set 132 (2, ([Value.int 0, Value.int 0, Value.ref 133, Value.ref 134].set 0 (Value.int 1))))) rfl ?_
        refine s_ek_if2 (T := 14) rfl rfl (fun h4 => ?_) (fun h4 => ?_)
        · replace h4 : 7 < a.toInt := h4
          omega
        · replace h4 : ¬ (7 < a.toInt) := h4
          replace h4 : a.toInt ≤ 7 := by omega
          refine s_ek_bk 2 (P := 15) (ls' := [(0, .int a), (1, .int 0), (2, .int 7)]) (st' := [.int 1]) (M' := ((s_M0.set 133 (13, ((List.replicate 50 (Value.int 0)).set 0 (Value.int a)))).set 132 (2, ([Value.int 0, Value.int 0, Value.ref 133, Value.ref 134].set 0 (Value.int 1))))) rfl ?_
          refine s_ek_ret (o := some (.int 1)) (fun _ => rfl) ?_
          show s_Ek (s_rows 3 L xs) 1299 s_e265.1 7 [(0, .ref 151), (1, .int a)] [.int 1] ((s_M0.set 133 (13, ((List.replicate 50 (Value.int 0)).set 0 (Value.int a)))).set 132 (2, ([Value.int 0, Value.int 0, Value.ref 133, Value.ref 134].set 0 (Value.int 1)))) _
          refine s_ek_bk 11 (P := 34) (ls' := [(0, .ref 151), (1, .int a)]) (st' := []) (M' := (((s_M0.set 133 (13, ((List.replicate 50 (Value.int 0)).set 0 (Value.int a)))).set 132 (2, ([Value.int 0, Value.int 0, Value.ref 133, Value.ref 134].set 0 (Value.int 1)))).set 179 (13, ((List.replicate 50 (Value.int 0)).set 0 (Value.int a))))) rfl ?_
          refine s_ek_bk 6 (P := 44) (ls' := [(0, .ref 151), (1, .int a)]) (st' := []) (M' := ((((s_M0.set 133 (13, ((List.replicate 50 (Value.int 0)).set 0 (Value.int a)))).set 132 (2, ([Value.int 0, Value.int 0, Value.ref 133, Value.ref 134].set 0 (Value.int 1)))).set 179 (13, ((List.replicate 50 (Value.int 0)).set 0 (Value.int a)))).set 151 (11, ([Value.int 0, Value.ref 152, Value.int 0, Value.int 0, Value.int 0, Value.int 0, Value.int 0, Value.ref 153, Value.ref 154, Value.ref 155, Value.ref 156, Value.ref 157, Value.ref 158, Value.ref 159, Value.int 0, Value.ref 160, Value.ref 161, Value.ref 162, Value.int 0, Value.int 99, Value.ref 163, Value.ref 164, Value.ref 165, Value.int 0, Value.int 0, Value.ref 166, Value.ref 167, Value.ref 168, Value.ref 169, Value.ref 170, Value.int 0, Value.int 0, Value.ref 171, Value.ref 172, Value.ref 173, Value.int 0, Value.int 0, Value.ref 174, Value.ref 175, Value.ref 176, Value.ref 177, Value.ref 178, Value.int 0, Value.ref 179, Value.int 0, Value.ref 180, Value.ref 181, Value.ref 182, Value.ref 183, Value.ref 184].set 42 (Value.int 1))))) rfl ?_
          refine s_ek_bk 4 (P := 50) (ls' := [(0, .ref 151), (1, .int a)]) (st' := [.int 0]) (M' := ((((s_M0.set 133 (13, ((List.replicate 50 (Value.int 0)).set 0 (Value.int a)))).set 132 (2, ([Value.int 0, Value.int 0, Value.ref 133, Value.ref 134].set 0 (Value.int 1)))).set 179 (13, ((List.replicate 50 (Value.int 0)).set 0 (Value.int a)))).set 151 (11, ([Value.int 0, Value.ref 152, Value.int 0, Value.int 0, Value.int 0, Value.int 0, Value.int 0, Value.ref 153, Value.ref 154, Value.ref 155, Value.ref 156, Value.ref 157, Value.ref 158, Value.ref 159, Value.int 0, Value.ref 160, Value.ref 161, Value.ref 162, Value.int 0, Value.int 99, Value.ref 163, Value.ref 164, Value.ref 165, Value.int 0, Value.int 0, Value.ref 166, Value.ref 167, Value.ref 168, Value.ref 169, Value.ref 170, Value.int 0, Value.int 0, Value.ref 171, Value.ref 172, Value.ref 173, Value.int 0, Value.int 0, Value.ref 174, Value.ref 175, Value.ref 176, Value.ref 177, Value.ref 178, Value.int 0, Value.ref 179, Value.int 0, Value.ref 180, Value.ref 181, Value.ref 182, Value.ref 183, Value.ref 184].set 42 (Value.int 1))))) rfl ?_
          refine s_ek_ret (o := some (.int 0)) (fun _ => rfl) ?_
          exact rfl
set_option maxHeartbeats 20000000 in
set_option maxRecDepth 100000 in
theorem s_op_act (L : Nat) (xs : Nat → Int32) (a : Int32) (b : Int32) (c : Int32) : s_Ek (s_rows 3 L xs) 1299 s_e160.1 0 (lv_args 0 [.ref 0, .int a, .int b, .int c]) [] s_M0 (fun v M1 => ∃ r : Int32, v = some (.int r) ∧ s_Ek (s_rows 3 L xs) 1299 s_e278.1 0 (lv_args 0 [.ref 151, .int a, .int b, .int c]) [] M1 (fun w _ => w = some (.int r))) := by
  show s_Ek (s_rows 3 L xs) 1299 s_e160.1 0 [(0, .ref 0), (1, .int a), (2, .int b), (3, .int c)] [] s_M0 _
  refine s_ek_bk 5 (P := 7) (ls' := [(0, .ref 0), (1, .int a), (2, .int b), (3, .int c)]) (st' := [.int c, .int b, .int a, .ref 132]) (M' := s_M0) rfl ?_
  refine s_ek_call (ν := s_e32.1) (P := 10) (as := [.ref 132, .int a, .int b, .int c]) (r := []) (fun _ => rfl) rfl ?_
  show s_Ek (s_rows 3 L xs) 1298 s_e32.1 0 [(0, .ref 132), (1, .int a), (2, .int b), (3, .int c)] [] s_M0 _
  refine s_ek_bk 3 (P := 5) (ls' := [(0, .ref 132), (1, .int a), (2, .int b), (3, .int c)]) (st' := []) (M' := s_M0) rfl ?_
  refine s_ek_bk 2 (P := 7) (ls' := [(0, .ref 132), (1, .int a), (2, .int b), (3, .int c)]) (st' := [.int a, .ref 132]) (M' := s_M0) rfl ?_
  refine s_ek_call (ν := s_e29.1) (P := 10) (as := [.ref 132, .int a]) (r := []) (fun _ => rfl) rfl ?_
  show s_Ek (s_rows 3 L xs) 1297 s_e29.1 0 [(0, .ref 132), (1, .int a)] [] s_M0 _
  refine s_ek_bk 1 (P := 1) (ls' := [(0, .ref 132), (1, .int a)]) (st' := [.int a]) (M' := s_M0) rfl ?_
  refine s_ek_if1 (T := 16) rfl rfl (fun h1 => ?_) (fun h1 => ?_)
  · replace h1 : a.toInt < 0 := h1
    refine s_ek_bk 1 (P := 17) (ls' := [(0, .ref 132), (1, .int a)]) (st' := [.int 0]) (M' := s_M0) rfl ?_
    refine s_ek_ret (o := some (.int 0)) (fun _ => rfl) ?_
    show s_Ek (s_rows 3 L xs) 1298 s_e32.1 10 [(0, .ref 132), (1, .int a), (2, .int b), (3, .int c)] [.int 0] s_M0 _
    refine s_ek_bk 2 (P := 23) (ls' := [(0, .ref 132), (1, .int a), (2, .int b), (3, .int c)]) (st' := [.int 0]) (M' := s_M0) rfl ?_
    refine s_ek_ret (o := some (.int 0)) (fun _ => rfl) ?_
    show s_Ek (s_rows 3 L xs) 1299 s_e160.1 10 [(0, .ref 0), (1, .int a), (2, .int b), (3, .int c)] [.int 0] s_M0 _
    refine s_ek_ret (o := some (.int 0)) (fun _ => rfl) ?_
    refine ⟨0, rfl, ?_⟩
    show s_Ek (s_rows 3 L xs) 1299 s_e278.1 0 [(0, .ref 151), (1, .int a), (2, .int b), (3, .int c)] [] s_M0 _
    refine s_ek_bk 3 (P := 5) (ls' := [(0, .ref 151), (1, .int a), (2, .int b), (3, .int c)]) (st' := []) (M' := s_M0) rfl ?_
    refine s_ek_bk 2 (P := 7) (ls' := [(0, .ref 151), (1, .int a), (2, .int b), (3, .int c)]) (st' := [.int a, .ref 151]) (M' := s_M0) rfl ?_
    refine s_ek_call (ν := s_e262.1) (P := 10) (as := [.ref 151, .int a]) (r := []) (fun _ => rfl) rfl ?_
    show s_Ek (s_rows 3 L xs) 1298 s_e262.1 0 [(0, .ref 151), (1, .int a)] [] s_M0 _
    refine s_ek_bk 6 (P := 8) (ls' := [(0, .ref 151), (1, .int a)]) (st' := [.int (-1), .int 0, .int a]) (M' := s_M0) rfl ?_
    refine s_ek_call (ν := s_e181.1) (P := 11) (as := [.int a, .int 0, .int (-1)]) (r := []) (fun _ => rfl) rfl ?_
    show s_Ek (s_rows 3 L xs) 1297 s_e181.1 0 [(0, .int a), (1, .int 0), (2, .int (-1))] [] s_M0 _
    refine s_ek_bk 2 (P := 2) (ls' := [(0, .int a), (1, .int 0), (2, .int (-1))]) (st' := [.int 0, .int a]) (M' := s_M0) rfl ?_
    refine s_ek_if2 (T := 14) rfl rfl (fun h2 => ?_) (fun h2 => ?_)
    · replace h2 : a.toInt < 0 := h2
      refine s_ek_bk 1 (P := 15) (ls' := [(0, .int a), (1, .int 0), (2, .int (-1))]) (st' := [.int 0]) (M' := s_M0) rfl ?_
      refine s_ek_ret (o := some (.int 0)) (fun _ => rfl) ?_
      show s_Ek (s_rows 3 L xs) 1298 s_e262.1 11 [(0, .ref 151), (1, .int a)] [.int 0] s_M0 _
      refine s_ek_ret (o := some (.int 0)) (fun _ => rfl) ?_
      show s_Ek (s_rows 3 L xs) 1299 s_e278.1 10 [(0, .ref 151), (1, .int a), (2, .int b), (3, .int c)] [.int 0] s_M0 _
      refine s_ek_bk 2 (P := 23) (ls' := [(0, .ref 151), (1, .int a), (2, .int b), (3, .int c)]) (st' := [.int 0]) (M' := s_M0) rfl ?_
      refine s_ek_ret (o := some (.int 0)) (fun _ => rfl) ?_
      exact rfl
    · replace h2 : ¬ (a.toInt < 0) := h2
      replace h2 : 0 ≤ a.toInt := by omega
      omega
  · replace h1 : ¬ (a.toInt < 0) := h1
    replace h1 : 0 ≤ a.toInt := by omega
    refine s_ek_bk 3 (P := 9) (ls' := [(0, .ref 132), (1, .int a)]) (st' := [.int 0, .int a]) (M' := s_M0) rfl ?_
    refine s_ek_if2 (T := 16) rfl rfl (fun h2 => ?_) (fun h2 => ?_)
    · replace h2 : 0 ≤ a.toInt := h2
      refine s_ek_bk 1 (P := 17) (ls' := [(0, .ref 132), (1, .int a)]) (st' := [.int 0]) (M' := s_M0) rfl ?_
      refine s_ek_ret (o := some (.int 0)) (fun _ => rfl) ?_
      show s_Ek (s_rows 3 L xs) 1298 s_e32.1 10 [(0, .ref 132), (1, .int a), (2, .int b), (3, .int c)] [.int 0] s_M0 _
      refine s_ek_bk 2 (P := 23) (ls' := [(0, .ref 132), (1, .int a), (2, .int b), (3, .int c)]) (st' := [.int 0]) (M' := s_M0) rfl ?_
      refine s_ek_ret (o := some (.int 0)) (fun _ => rfl) ?_
      show s_Ek (s_rows 3 L xs) 1299 s_e160.1 10 [(0, .ref 0), (1, .int a), (2, .int b), (3, .int c)] [.int 0] s_M0 _
      refine s_ek_ret (o := some (.int 0)) (fun _ => rfl) ?_
      refine ⟨0, rfl, ?_⟩
      show s_Ek (s_rows 3 L xs) 1299 s_e278.1 0 [(0, .ref 151), (1, .int a), (2, .int b), (3, .int c)] [] s_M0 _
      refine s_ek_bk 3 (P := 5) (ls' := [(0, .ref 151), (1, .int a), (2, .int b), (3, .int c)]) (st' := []) (M' := s_M0) rfl ?_
      refine s_ek_bk 2 (P := 7) (ls' := [(0, .ref 151), (1, .int a), (2, .int b), (3, .int c)]) (st' := [.int a, .ref 151]) (M' := s_M0) rfl ?_
      refine s_ek_call (ν := s_e262.1) (P := 10) (as := [.ref 151, .int a]) (r := []) (fun _ => rfl) rfl ?_
      show s_Ek (s_rows 3 L xs) 1298 s_e262.1 0 [(0, .ref 151), (1, .int a)] [] s_M0 _
      refine s_ek_bk 6 (P := 8) (ls' := [(0, .ref 151), (1, .int a)]) (st' := [.int (-1), .int 0, .int a]) (M' := s_M0) rfl ?_
      refine s_ek_call (ν := s_e181.1) (P := 11) (as := [.int a, .int 0, .int (-1)]) (r := []) (fun _ => rfl) rfl ?_
      show s_Ek (s_rows 3 L xs) 1297 s_e181.1 0 [(0, .int a), (1, .int 0), (2, .int (-1))] [] s_M0 _
      refine s_ek_bk 2 (P := 2) (ls' := [(0, .int a), (1, .int 0), (2, .int (-1))]) (st' := [.int 0, .int a]) (M' := s_M0) rfl ?_
      refine s_ek_if2 (T := 14) rfl rfl (fun h3 => ?_) (fun h3 => ?_)
      · replace h3 : a.toInt < 0 := h3
        omega
      · replace h3 : ¬ (a.toInt < 0) := h3
        replace h3 : 0 ≤ a.toInt := by omega
        refine s_ek_bk 2 (P := 7) (ls' := [(0, .int a), (1, .int 0), (2, .int (-1))]) (st' := [.int (-1), .int a]) (M' := s_M0) rfl ?_
        refine s_ek_if2 (T := 14) rfl rfl (fun h4 => ?_) (fun h4 => ?_)
        · replace h4 : (-1) < a.toInt := h4
          refine s_ek_bk 1 (P := 15) (ls' := [(0, .int a), (1, .int 0), (2, .int (-1))]) (st' := [.int 0]) (M' := s_M0) rfl ?_
          refine s_ek_ret (o := some (.int 0)) (fun _ => rfl) ?_
          show s_Ek (s_rows 3 L xs) 1298 s_e262.1 11 [(0, .ref 151), (1, .int a)] [.int 0] s_M0 _
          refine s_ek_ret (o := some (.int 0)) (fun _ => rfl) ?_
          show s_Ek (s_rows 3 L xs) 1299 s_e278.1 10 [(0, .ref 151), (1, .int a), (2, .int b), (3, .int c)] [.int 0] s_M0 _
          refine s_ek_bk 2 (P := 23) (ls' := [(0, .ref 151), (1, .int a), (2, .int b), (3, .int c)]) (st' := [.int 0]) (M' := s_M0) rfl ?_
          refine s_ek_ret (o := some (.int 0)) (fun _ => rfl) ?_
          exact rfl
        · replace h4 : ¬ ((-1) < a.toInt) := h4
          replace h4 : a.toInt ≤ (-1) := by omega
          omega
    · replace h2 : ¬ (0 ≤ a.toInt) := h2
      replace h2 : a.toInt < 0 := by omega
      omega
set_option maxHeartbeats 20000000 in
set_option maxRecDepth 100000 in
theorem s_op_trace (L : Nat) (xs : Nat → Int32) (a : Int32) : s_Ek (s_rows 3 L xs) 1299 s_e161.1 0 (lv_args 0 [.ref 0, .int a]) [] s_M0 (fun v M1 => ∃ r : Int32, v = some (.int r) ∧ s_Ek (s_rows 3 L xs) 1299 s_e264.1 0 (lv_args 0 [.ref 151, .int a]) [] M1 (fun w _ => w = some (.int r))) := by
  show s_Ek (s_rows 3 L xs) 1299 s_e161.1 0 [(0, .ref 0), (1, .int a)] [] s_M0 _
  refine s_ek_bk 3 (P := 5) (ls' := [(0, .ref 0), (1, .int a)]) (st' := [.int a, .ref 132]) (M' := s_M0) rfl ?_
  refine s_ek_call (ν := s_e31.1) (P := 8) (as := [.ref 132, .int a]) (r := []) (fun _ => rfl) rfl ?_
  show s_Ek (s_rows 3 L xs) 1298 s_e31.1 0 [(0, .ref 132), (1, .int a)] [] s_M0 _
  refine s_ek_bk 1 (P := 1) (ls' := [(0, .ref 132), (1, .int a)]) (st' := [.int a]) (M' := s_M0) rfl ?_
  refine s_ek_if1 (T := 30) rfl rfl (fun h1 => ?_) (fun h1 => ?_)
  · replace h1 : a.toInt < 0 := h1
    refine s_ek_bk 1 (P := 31) (ls' := [(0, .ref 132), (1, .int a)]) (st' := [.int (-1)]) (M' := s_M0) rfl ?_
    refine s_ek_ret (o := some (.int (-1))) (fun _ => rfl) ?_
    show s_Ek (s_rows 3 L xs) 1299 s_e161.1 8 [(0, .ref 0), (1, .int a)] [.int (-1)] s_M0 _
    refine s_ek_ret (o := some (.int (-1))) (fun _ => rfl) ?_
    refine ⟨(-1), rfl, ?_⟩
    show s_Ek (s_rows 3 L xs) 1299 s_e264.1 0 [(0, .ref 151), (1, .int a)] [] s_M0 _
    refine s_ek_bk 1 (P := 1) (ls' := [(0, .ref 151), (1, .int a)]) (st' := [.int a]) (M' := s_M0) rfl ?_
    refine s_ek_if1 (T := 27) rfl rfl (fun h2 => ?_) (fun h2 => ?_)
    · replace h2 : a.toInt < 0 := h2
      refine s_ek_bk 1 (P := 28) (ls' := [(0, .ref 151), (1, .int a)]) (st' := [.int (-1)]) (M' := s_M0) rfl ?_
      refine s_ek_ret (o := some (.int (-1))) (fun _ => rfl) ?_
      exact rfl
    · replace h2 : ¬ (a.toInt < 0) := h2
      replace h2 : 0 ≤ a.toInt := by omega
      omega
  · replace h1 : ¬ (a.toInt < 0) := h1
    replace h1 : 0 ≤ a.toInt := by omega
    refine s_ek_bk 3 (P := 9) (ls' := [(0, .ref 132), (1, .int a)]) (st' := [.int 0, .int a]) (M' := s_M0) rfl ?_
    refine s_ek_if2 (T := 30) rfl rfl (fun h2 => ?_) (fun h2 => ?_)
    · replace h2 : 0 ≤ a.toInt := h2
      refine s_ek_bk 1 (P := 31) (ls' := [(0, .ref 132), (1, .int a)]) (st' := [.int (-1)]) (M' := s_M0) rfl ?_
      refine s_ek_ret (o := some (.int (-1))) (fun _ => rfl) ?_
      show s_Ek (s_rows 3 L xs) 1299 s_e161.1 8 [(0, .ref 0), (1, .int a)] [.int (-1)] s_M0 _
      refine s_ek_ret (o := some (.int (-1))) (fun _ => rfl) ?_
      refine ⟨(-1), rfl, ?_⟩
      show s_Ek (s_rows 3 L xs) 1299 s_e264.1 0 [(0, .ref 151), (1, .int a)] [] s_M0 _
      refine s_ek_bk 1 (P := 1) (ls' := [(0, .ref 151), (1, .int a)]) (st' := [.int a]) (M' := s_M0) rfl ?_
      refine s_ek_if1 (T := 27) rfl rfl (fun h3 => ?_) (fun h3 => ?_)
      · replace h3 : a.toInt < 0 := h3
        omega
      · replace h3 : ¬ (a.toInt < 0) := h3
        replace h3 : 0 ≤ a.toInt := by omega
        refine s_ek_bk 3 (P := 9) (ls' := [(0, .ref 151), (1, .int a)]) (st' := [.int 0, .int a]) (M' := s_M0) rfl ?_
        refine s_ek_if2 (T := 27) rfl rfl (fun h4 => ?_) (fun h4 => ?_)
        · replace h4 : 0 ≤ a.toInt := h4
          refine s_ek_bk 1 (P := 28) (ls' := [(0, .ref 151), (1, .int a)]) (st' := [.int (-1)]) (M' := s_M0) rfl ?_
          refine s_ek_ret (o := some (.int (-1))) (fun _ => rfl) ?_
          exact rfl
        · replace h4 : ¬ (0 ≤ a.toInt) := h4
          replace h4 : a.toInt < 0 := by omega
          omega
    · replace h2 : ¬ (0 ≤ a.toInt) := h2
      replace h2 : a.toInt < 0 := by omega
      omega
