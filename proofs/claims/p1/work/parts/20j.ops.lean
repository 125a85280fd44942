/-! the calls on fresh objects: unlike -/
set_option maxRecDepth 1000000 in
theorem s_clj_0 : s_out (s_x s_prog s_fty s_ft (s_rows 2 0 (fun _ => 0)) 2636 1299 s_e153.1 0 (lv_args 0 [.ref 0, .int 0, .int 0]) [] s_M0) (some (.int 0)) s_M0 s_M0 = true := by decide +kernel
set_option maxRecDepth 1000000 in
theorem s_clj_1 : s_out (s_x s_prog s_fty s_ft (s_rows 2 0 (fun _ => 0)) 1843 1299 s_e257.1 0 (lv_args 0 [.ref 151, .int 0, .int 0]) [] s_M0) (some (.int 0)) s_M0 ((s_M0.set 151 (11, ([Value.int 0, Value.ref 152, Value.int 0, Value.int 0, Value.int 0, Value.int 0, Value.int 0, Value.ref 153, Value.ref 154, Value.ref 155, Value.ref 156, Value.ref 157, Value.ref 158, Value.ref 159, Value.int 0, Value.ref 160, Value.ref 161, Value.ref 162, Value.int 0, Value.int 99, Value.ref 163, Value.ref 164, Value.ref 165, Value.int 0, Value.int 0, Value.ref 166, Value.ref 167, Value.ref 168, Value.ref 169, Value.ref 170, Value.int 0, Value.int (-1), Value.ref 171, Value.ref 172, Value.ref 173, Value.int 0, Value.int 0, Value.ref 174, Value.ref 175, Value.ref 176, Value.ref 177, Value.ref 178, Value.int 0, Value.ref 179, Value.int 0, Value.ref 180, Value.ref 181, Value.ref 182, Value.ref 183, Value.ref 184] : List Value))).set 173 (13, ((List.replicate 125 (Value.int (-2)))))) = true := by decide +kernel
set_option maxRecDepth 1000000 in
theorem s_clj_2 : s_out (s_x s_prog s_fty s_ft (s_rows 2 0 (fun _ => 0)) 3726 1299 s_e153.1 0 (lv_args 0 [.ref 0, .int 0, .int 1]) [] s_M0) (some (.int (-2))) s_M0 s_M0 = true := by decide +kernel
set_option maxRecDepth 1000000 in
theorem s_clj_3 : s_out (s_x s_prog s_fty s_ft (s_rows 2 0 (fun _ => 0)) 1842 1299 s_e257.1 0 (lv_args 0 [.ref 151, .int 0, .int 1]) [] s_M0) (some (.int (-2))) s_M0 ((s_M0.set 151 (11, ([Value.int 0, Value.ref 152, Value.int 0, Value.int 0, Value.int 0, Value.int 0, Value.int 0, Value.ref 153, Value.ref 154, Value.ref 155, Value.ref 156, Value.ref 157, Value.ref 158, Value.ref 159, Value.int 0, Value.ref 160, Value.ref 161, Value.ref 162, Value.int 0, Value.int 99, Value.ref 163, Value.ref 164, Value.ref 165, Value.int 0, Value.int 0, Value.ref 166, Value.ref 167, Value.ref 168, Value.ref 169, Value.ref 170, Value.int 0, Value.int (-1), Value.ref 171, Value.ref 172, Value.ref 173, Value.int 0, Value.int 0, Value.ref 174, Value.ref 175, Value.ref 176, Value.ref 177, Value.ref 178, Value.int 0, Value.ref 179, Value.int 0, Value.ref 180, Value.ref 181, Value.ref 182, Value.ref 183, Value.ref 184] : List Value))).set 173 (13, ((List.replicate 125 (Value.int (-2)))))) = true := by decide +kernel
set_option maxRecDepth 1000000 in
theorem s_clj_4 : s_out (s_x s_prog s_fty s_ft (s_rows 2 0 (fun _ => 0)) 2636 1299 s_e153.1 0 (lv_args 0 [.ref 0, .int 1, .int 0]) [] s_M0) (some (.int 0)) s_M0 s_M0 = true := by decide +kernel
set_option maxRecDepth 1000000 in
theorem s_clj_5 : s_out (s_x s_prog s_fty s_ft (s_rows 2 0 (fun _ => 0)) 1843 1299 s_e257.1 0 (lv_args 0 [.ref 151, .int 1, .int 0]) [] s_M0) (some (.int 0)) s_M0 ((s_M0.set 151 (11, ([Value.int 0, Value.ref 152, Value.int 0, Value.int 0, Value.int 0, Value.int 0, Value.int 0, Value.ref 153, Value.ref 154, Value.ref 155, Value.ref 156, Value.ref 157, Value.ref 158, Value.ref 159, Value.int 0, Value.ref 160, Value.ref 161, Value.ref 162, Value.int 0, Value.int 99, Value.ref 163, Value.ref 164, Value.ref 165, Value.int 0, Value.int 0, Value.ref 166, Value.ref 167, Value.ref 168, Value.ref 169, Value.ref 170, Value.int 0, Value.int (-1), Value.ref 171, Value.ref 172, Value.ref 173, Value.int 0, Value.int 0, Value.ref 174, Value.ref 175, Value.ref 176, Value.ref 177, Value.ref 178, Value.int 0, Value.ref 179, Value.int 0, Value.ref 180, Value.ref 181, Value.ref 182, Value.ref 183, Value.ref 184] : List Value))).set 173 (13, ((List.replicate 125 (Value.int (-2)))))) = true := by decide +kernel
set_option maxRecDepth 1000000 in
theorem s_clj_6 : s_out (s_x s_prog s_fty s_ft (s_rows 2 0 (fun _ => 0)) 3726 1299 s_e153.1 0 (lv_args 0 [.ref 0, .int 1, .int 1]) [] s_M0) (some (.int (-2))) s_M0 s_M0 = true := by decide +kernel
set_option maxRecDepth 1000000 in
theorem s_clj_7 : s_out (s_x s_prog s_fty s_ft (s_rows 2 0 (fun _ => 0)) 1842 1299 s_e257.1 0 (lv_args 0 [.ref 151, .int 1, .int 1]) [] s_M0) (some (.int (-2))) s_M0 ((s_M0.set 151 (11, ([Value.int 0, Value.ref 152, Value.int 0, Value.int 0, Value.int 0, Value.int 0, Value.int 0, Value.ref 153, Value.ref 154, Value.ref 155, Value.ref 156, Value.ref 157, Value.ref 158, Value.ref 159, Value.int 0, Value.ref 160, Value.ref 161, Value.ref 162, Value.int 0, Value.int 99, Value.ref 163, Value.ref 164, Value.ref 165, Value.int 0, Value.int 0, Value.ref 166, Value.ref 167, Value.ref 168, Value.ref 169, Value.ref 170, Value.int 0, Value.int (-1), Value.ref 171, Value.ref 172, Value.ref 173, Value.int 0, Value.int 0, Value.ref 174, Value.ref 175, Value.ref 176, Value.ref 177, Value.ref 178, Value.int 0, Value.ref 179, Value.int 0, Value.ref 180, Value.ref 181, Value.ref 182, Value.ref 183, Value.ref 184] : List Value))).set 173 (13, ((List.replicate 125 (Value.int (-2)))))) = true := by decide +kernel
set_option maxRecDepth 1000000 in
theorem s_clj_8 : s_out (s_x s_prog s_fty s_ft (s_rows 2 0 (fun _ => 0)) 2636 1299 s_e153.1 0 (lv_args 0 [.ref 0, .int 2, .int 0]) [] s_M0) (some (.int 0)) s_M0 s_M0 = true := by decide +kernel
set_option maxRecDepth 1000000 in
theorem s_clj_9 : s_out (s_x s_prog s_fty s_ft (s_rows 2 0 (fun _ => 0)) 1843 1299 s_e257.1 0 (lv_args 0 [.ref 151, .int 2, .int 0]) [] s_M0) (some (.int 0)) s_M0 ((s_M0.set 151 (11, ([Value.int 0, Value.ref 152, Value.int 0, Value.int 0, Value.int 0, Value.int 0, Value.int 0, Value.ref 153, Value.ref 154, Value.ref 155, Value.ref 156, Value.ref 157, Value.ref 158, Value.ref 159, Value.int 0, Value.ref 160, Value.ref 161, Value.ref 162, Value.int 0, Value.int 99, Value.ref 163, Value.ref 164, Value.ref 165, Value.int 0, Value.int 0, Value.ref 166, Value.ref 167, Value.ref 168, Value.ref 169, Value.ref 170, Value.int 0, Value.int (-1), Value.ref 171, Value.ref 172, Value.ref 173, Value.int 0, Value.int 0, Value.ref 174, Value.ref 175, Value.ref 176, Value.ref 177, Value.ref 178, Value.int 0, Value.ref 179, Value.int 0, Value.ref 180, Value.ref 181, Value.ref 182, Value.ref 183, Value.ref 184] : List Value))).set 173 (13, ((List.replicate 125 (Value.int (-2)))))) = true := by decide +kernel
set_option maxRecDepth 1000000 in
theorem s_clj_10 : s_out (s_x s_prog s_fty s_ft (s_rows 2 0 (fun _ => 0)) 3726 1299 s_e153.1 0 (lv_args 0 [.ref 0, .int 2, .int 1]) [] s_M0) (some (.int (-2))) s_M0 s_M0 = true := by decide +kernel
set_option maxRecDepth 1000000 in
theorem s_clj_11 : s_out (s_x s_prog s_fty s_ft (s_rows 2 0 (fun _ => 0)) 1842 1299 s_e257.1 0 (lv_args 0 [.ref 151, .int 2, .int 1]) [] s_M0) (some (.int (-2))) s_M0 ((s_M0.set 151 (11, ([Value.int 0, Value.ref 152, Value.int 0, Value.int 0, Value.int 0, Value.int 0, Value.int 0, Value.ref 153, Value.ref 154, Value.ref 155, Value.ref 156, Value.ref 157, Value.ref 158, Value.ref 159, Value.int 0, Value.ref 160, Value.ref 161, Value.ref 162, Value.int 0, Value.int 99, Value.ref 163, Value.ref 164, Value.ref 165, Value.int 0, Value.int 0, Value.ref 166, Value.ref 167, Value.ref 168, Value.ref 169, Value.ref 170, Value.int 0, Value.int (-1), Value.ref 171, Value.ref 172, Value.ref 173, Value.int 0, Value.int 0, Value.ref 174, Value.ref 175, Value.ref 176, Value.ref 177, Value.ref 178, Value.int 0, Value.ref 179, Value.int 0, Value.ref 180, Value.ref 181, Value.ref 182, Value.ref 183, Value.ref 184] : List Value))).set 173 (13, ((List.replicate 125 (Value.int (-2)))))) = true := by decide +kernel
set_option maxRecDepth 1000000 in
theorem s_clj_12 : s_out (s_x s_prog s_fty s_ft (s_rows 2 0 (fun _ => 0)) 2636 1299 s_e153.1 0 (lv_args 0 [.ref 0, .int 3, .int 0]) [] s_M0) (some (.int 0)) s_M0 s_M0 = true := by decide +kernel
set_option maxRecDepth 1000000 in
theorem s_clj_13 : s_out (s_x s_prog s_fty s_ft (s_rows 2 0 (fun _ => 0)) 1843 1299 s_e257.1 0 (lv_args 0 [.ref 151, .int 3, .int 0]) [] s_M0) (some (.int 0)) s_M0 ((s_M0.set 151 (11, ([Value.int 0, Value.ref 152, Value.int 0, Value.int 0, Value.int 0, Value.int 0, Value.int 0, Value.ref 153, Value.ref 154, Value.ref 155, Value.ref 156, Value.ref 157, Value.ref 158, Value.ref 159, Value.int 0, Value.ref 160, Value.ref 161, Value.ref 162, Value.int 0, Value.int 99, Value.ref 163, Value.ref 164, Value.ref 165, Value.int 0, Value.int 0, Value.ref 166, Value.ref 167, Value.ref 168, Value.ref 169, Value.ref 170, Value.int 0, Value.int (-1), Value.ref 171, Value.ref 172, Value.ref 173, Value.int 0, Value.int 0, Value.ref 174, Value.ref 175, Value.ref 176, Value.ref 177, Value.ref 178, Value.int 0, Value.ref 179, Value.int 0, Value.ref 180, Value.ref 181, Value.ref 182, Value.ref 183, Value.ref 184] : List Value))).set 173 (13, ((List.replicate 125 (Value.int (-2)))))) = true := by decide +kernel
set_option maxRecDepth 1000000 in
theorem s_clj_14 : s_out (s_x s_prog s_fty s_ft (s_rows 2 0 (fun _ => 0)) 3726 1299 s_e153.1 0 (lv_args 0 [.ref 0, .int 3, .int 1]) [] s_M0) (some (.int (-2))) s_M0 s_M0 = true := by decide +kernel
set_option maxRecDepth 1000000 in
theorem s_clj_15 : s_out (s_x s_prog s_fty s_ft (s_rows 2 0 (fun _ => 0)) 1842 1299 s_e257.1 0 (lv_args 0 [.ref 151, .int 3, .int 1]) [] s_M0) (some (.int (-2))) s_M0 ((s_M0.set 151 (11, ([Value.int 0, Value.ref 152, Value.int 0, Value.int 0, Value.int 0, Value.int 0, Value.int 0, Value.ref 153, Value.ref 154, Value.ref 155, Value.ref 156, Value.ref 157, Value.ref 158, Value.ref 159, Value.int 0, Value.ref 160, Value.ref 161, Value.ref 162, Value.int 0, Value.int 99, Value.ref 163, Value.ref 164, Value.ref 165, Value.int 0, Value.int 0, Value.ref 166, Value.ref 167, Value.ref 168, Value.ref 169, Value.ref 170, Value.int 0, Value.int (-1), Value.ref 171, Value.ref 172, Value.ref 173, Value.int 0, Value.int 0, Value.ref 174, Value.ref 175, Value.ref 176, Value.ref 177, Value.ref 178, Value.int 0, Value.ref 179, Value.int 0, Value.ref 180, Value.ref 181, Value.ref 182, Value.ref 183, Value.ref 184] : List Value))).set 173 (13, ((List.replicate 125 (Value.int (-2)))))) = true := by decide +kernel
set_option maxRecDepth 1000000 in
theorem s_clj_16 : s_out (s_x s_prog s_fty s_ft (s_rows 2 0 (fun _ => 0)) 68 1299 s_e153.1 0 (lv_args 0 [.ref 0, .int 4, .int 0]) [] s_M0) (some (.int (-1))) s_M0 s_M0 = true := by decide +kernel
set_option maxRecDepth 1000000 in
theorem s_clj_17 : s_out (s_x s_prog s_fty s_ft (s_rows 2 0 (fun _ => 0)) 64 1299 s_e257.1 0 (lv_args 0 [.ref 151, .int 4, .int 0]) [] s_M0) (some (.int (-1))) s_M0 s_M0 = true := by decide +kernel
set_option maxRecDepth 1000000 in
theorem s_clj_18 : s_out (s_x s_prog s_fty s_ft (s_rows 2 0 (fun _ => 0)) 68 1299 s_e153.1 0 (lv_args 0 [.ref 0, .int 4, .int 1]) [] s_M0) (some (.int (-1))) s_M0 s_M0 = true := by decide +kernel
set_option maxRecDepth 1000000 in
theorem s_clj_19 : s_out (s_x s_prog s_fty s_ft (s_rows 2 0 (fun _ => 0)) 64 1299 s_e257.1 0 (lv_args 0 [.ref 151, .int 4, .int 1]) [] s_M0) (some (.int (-1))) s_M0 s_M0 = true := by decide +kernel
set_option maxRecDepth 1000000 in
theorem s_clj_20 : s_out (s_x s_prog s_fty s_ft (s_rows 2 0 (fun _ => 0)) 68 1299 s_e153.1 0 (lv_args 0 [.ref 0, .int 5, .int 0]) [] s_M0) (some (.int (-1))) s_M0 s_M0 = true := by decide +kernel
set_option maxRecDepth 1000000 in
theorem s_clj_21 : s_out (s_x s_prog s_fty s_ft (s_rows 2 0 (fun _ => 0)) 64 1299 s_e257.1 0 (lv_args 0 [.ref 151, .int 5, .int 0]) [] s_M0) (some (.int (-1))) s_M0 s_M0 = true := by decide +kernel
set_option maxRecDepth 1000000 in
theorem s_clj_22 : s_out (s_x s_prog s_fty s_ft (s_rows 2 0 (fun _ => 0)) 68 1299 s_e153.1 0 (lv_args 0 [.ref 0, .int 5, .int 1]) [] s_M0) (some (.int (-1))) s_M0 s_M0 = true := by decide +kernel
set_option maxRecDepth 1000000 in
theorem s_clj_23 : s_out (s_x s_prog s_fty s_ft (s_rows 2 0 (fun _ => 0)) 64 1299 s_e257.1 0 (lv_args 0 [.ref 151, .int 5, .int 1]) [] s_M0) (some (.int (-1))) s_M0 s_M0 = true := by decide +kernel
set_option maxRecDepth 1000000 in
theorem s_clj_24 : s_out (s_x s_prog s_fty s_ft (s_rows 2 0 (fun _ => 0)) 68 1299 s_e153.1 0 (lv_args 0 [.ref 0, .int 6, .int 0]) [] s_M0) (some (.int (-1))) s_M0 s_M0 = true := by decide +kernel
set_option maxRecDepth 1000000 in
theorem s_clj_25 : s_out (s_x s_prog s_fty s_ft (s_rows 2 0 (fun _ => 0)) 64 1299 s_e257.1 0 (lv_args 0 [.ref 151, .int 6, .int 0]) [] s_M0) (some (.int (-1))) s_M0 s_M0 = true := by decide +kernel
set_option maxRecDepth 1000000 in
theorem s_clj_26 : s_out (s_x s_prog s_fty s_ft (s_rows 2 0 (fun _ => 0)) 68 1299 s_e153.1 0 (lv_args 0 [.ref 0, .int 6, .int 1]) [] s_M0) (some (.int (-1))) s_M0 s_M0 = true := by decide +kernel
set_option maxRecDepth 1000000 in
theorem s_clj_27 : s_out (s_x s_prog s_fty s_ft (s_rows 2 0 (fun _ => 0)) 64 1299 s_e257.1 0 (lv_args 0 [.ref 151, .int 6, .int 1]) [] s_M0) (some (.int (-1))) s_M0 s_M0 = true := by decide +kernel
set_option maxRecDepth 1000000 in
theorem s_clj_28 : s_out (s_x s_prog s_fty s_ft (s_rows 2 0 (fun _ => 0)) 68 1299 s_e153.1 0 (lv_args 0 [.ref 0, .int 7, .int 0]) [] s_M0) (some (.int (-1))) s_M0 s_M0 = true := by decide +kernel
set_option maxRecDepth 1000000 in
theorem s_clj_29 : s_out (s_x s_prog s_fty s_ft (s_rows 2 0 (fun _ => 0)) 64 1299 s_e257.1 0 (lv_args 0 [.ref 151, .int 7, .int 0]) [] s_M0) (some (.int (-1))) s_M0 s_M0 = true := by decide +kernel
set_option maxRecDepth 1000000 in
theorem s_clj_30 : s_out (s_x s_prog s_fty s_ft (s_rows 2 0 (fun _ => 0)) 68 1299 s_e153.1 0 (lv_args 0 [.ref 0, .int 7, .int 1]) [] s_M0) (some (.int (-1))) s_M0 s_M0 = true := by decide +kernel
set_option maxRecDepth 1000000 in
theorem s_clj_31 : s_out (s_x s_prog s_fty s_ft (s_rows 2 0 (fun _ => 0)) 64 1299 s_e257.1 0 (lv_args 0 [.ref 151, .int 7, .int 1]) [] s_M0) (some (.int (-1))) s_M0 s_M0 = true := by decide +kernel
set_option maxRecDepth 1000000 in
theorem s_clj_32 : s_out (s_x s_prog s_fty s_ft (s_rows 2 0 (fun _ => 0)) 68 1299 s_e153.1 0 (lv_args 0 [.ref 0, .int 8, .int 0]) [] s_M0) (some (.int (-1))) s_M0 s_M0 = true := by decide +kernel
set_option maxRecDepth 1000000 in
theorem s_clj_33 : s_out (s_x s_prog s_fty s_ft (s_rows 2 0 (fun _ => 0)) 64 1299 s_e257.1 0 (lv_args 0 [.ref 151, .int 8, .int 0]) [] s_M0) (some (.int (-1))) s_M0 s_M0 = true := by decide +kernel
set_option maxRecDepth 1000000 in
theorem s_clj_34 : s_out (s_x s_prog s_fty s_ft (s_rows 2 0 (fun _ => 0)) 68 1299 s_e153.1 0 (lv_args 0 [.ref 0, .int 8, .int 1]) [] s_M0) (some (.int (-1))) s_M0 s_M0 = true := by decide +kernel
set_option maxRecDepth 1000000 in
theorem s_clj_35 : s_out (s_x s_prog s_fty s_ft (s_rows 2 0 (fun _ => 0)) 64 1299 s_e257.1 0 (lv_args 0 [.ref 151, .int 8, .int 1]) [] s_M0) (some (.int (-1))) s_M0 s_M0 = true := by decide +kernel
set_option maxRecDepth 1000000 in
theorem s_clj_36 : s_out (s_x s_prog s_fty s_ft (s_rows 2 0 (fun _ => 0)) 68 1299 s_e153.1 0 (lv_args 0 [.ref 0, .int 9, .int 0]) [] s_M0) (some (.int (-1))) s_M0 s_M0 = true := by decide +kernel
set_option maxRecDepth 1000000 in
theorem s_clj_37 : s_out (s_x s_prog s_fty s_ft (s_rows 2 0 (fun _ => 0)) 64 1299 s_e257.1 0 (lv_args 0 [.ref 151, .int 9, .int 0]) [] s_M0) (some (.int (-1))) s_M0 s_M0 = true := by decide +kernel
set_option maxRecDepth 1000000 in
theorem s_clj_38 : s_out (s_x s_prog s_fty s_ft (s_rows 2 0 (fun _ => 0)) 68 1299 s_e153.1 0 (lv_args 0 [.ref 0, .int 9, .int 1]) [] s_M0) (some (.int (-1))) s_M0 s_M0 = true := by decide +kernel
set_option maxRecDepth 1000000 in
theorem s_clj_39 : s_out (s_x s_prog s_fty s_ft (s_rows 2 0 (fun _ => 0)) 64 1299 s_e257.1 0 (lv_args 0 [.ref 151, .int 9, .int 1]) [] s_M0) (some (.int (-1))) s_M0 s_M0 = true := by decide +kernel
set_option maxRecDepth 1000000 in
theorem s_clj_40 : s_out (s_x s_prog s_fty s_ft (s_rows 2 0 (fun _ => 0)) 2636 1299 s_e153.1 0 (lv_args 0 [.ref 0, .int 10, .int 0]) [] s_M0) (some (.int 0)) s_M0 s_M0 = true := by decide +kernel
set_option maxRecDepth 1000000 in
theorem s_clj_41 : s_out (s_x s_prog s_fty s_ft (s_rows 2 0 (fun _ => 0)) 1843 1299 s_e257.1 0 (lv_args 0 [.ref 151, .int 10, .int 0]) [] s_M0) (some (.int 0)) s_M0 ((s_M0.set 151 (11, ([Value.int 0, Value.ref 152, Value.int 0, Value.int 0, Value.int 0, Value.int 0, Value.int 0, Value.ref 153, Value.ref 154, Value.ref 155, Value.ref 156, Value.ref 157, Value.ref 158, Value.ref 159, Value.int 0, Value.ref 160, Value.ref 161, Value.ref 162, Value.int 0, Value.int 99, Value.ref 163, Value.ref 164, Value.ref 165, Value.int 0, Value.int 0, Value.ref 166, Value.ref 167, Value.ref 168, Value.ref 169, Value.ref 170, Value.int 0, Value.int (-1), Value.ref 171, Value.ref 172, Value.ref 173, Value.int 0, Value.int 0, Value.ref 174, Value.ref 175, Value.ref 176, Value.ref 177, Value.ref 178, Value.int 0, Value.ref 179, Value.int 0, Value.ref 180, Value.ref 181, Value.ref 182, Value.ref 183, Value.ref 184] : List Value))).set 173 (13, ((List.replicate 125 (Value.int (-2)))))) = true := by decide +kernel
set_option maxRecDepth 1000000 in
theorem s_clj_42 : s_out (s_x s_prog s_fty s_ft (s_rows 2 0 (fun _ => 0)) 3726 1299 s_e153.1 0 (lv_args 0 [.ref 0, .int 10, .int 1]) [] s_M0) (some (.int (-2))) s_M0 s_M0 = true := by decide +kernel
set_option maxRecDepth 1000000 in
theorem s_clj_43 : s_out (s_x s_prog s_fty s_ft (s_rows 2 0 (fun _ => 0)) 1842 1299 s_e257.1 0 (lv_args 0 [.ref 151, .int 10, .int 1]) [] s_M0) (some (.int (-2))) s_M0 ((s_M0.set 151 (11, ([Value.int 0, Value.ref 152, Value.int 0, Value.int 0, Value.int 0, Value.int 0, Value.int 0, Value.ref 153, Value.ref 154, Value.ref 155, Value.ref 156, Value.ref 157, Value.ref 158, Value.ref 159, Value.int 0, Value.ref 160, Value.ref 161, Value.ref 162, Value.int 0, Value.int 99, Value.ref 163, Value.ref 164, Value.ref 165, Value.int 0, Value.int 0, Value.ref 166, Value.ref 167, Value.ref 168, Value.ref 169, Value.ref 170, Value.int 0, Value.int (-1), Value.ref 171, Value.ref 172, Value.ref 173, Value.int 0, Value.int 0, Value.ref 174, Value.ref 175, Value.ref 176, Value.ref 177, Value.ref 178, Value.int 0, Value.ref 179, Value.int 0, Value.ref 180, Value.ref 181, Value.ref 182, Value.ref 183, Value.ref 184] : List Value))).set 173 (13, ((List.replicate 125 (Value.int (-2)))))) = true := by decide +kernel
set_option maxRecDepth 1000000 in
theorem s_clj_44 : s_out (s_x s_prog s_fty s_ft (s_rows 2 0 (fun _ => 0)) 2636 1299 s_e153.1 0 (lv_args 0 [.ref 0, .int 11, .int 0]) [] s_M0) (some (.int 0)) s_M0 s_M0 = true := by decide +kernel
set_option maxRecDepth 1000000 in
theorem s_clj_45 : s_out (s_x s_prog s_fty s_ft (s_rows 2 0 (fun _ => 0)) 1843 1299 s_e257.1 0 (lv_args 0 [.ref 151, .int 11, .int 0]) [] s_M0) (some (.int 0)) s_M0 ((s_M0.set 151 (11, ([Value.int 0, Value.ref 152, Value.int 0, Value.int 0, Value.int 0, Value.int 0, Value.int 0, Value.ref 153, Value.ref 154, Value.ref 155, Value.ref 156, Value.ref 157, Value.ref 158, Value.ref 159, Value.int 0, Value.ref 160, Value.ref 161, Value.ref 162, Value.int 0, Value.int 99, Value.ref 163, Value.ref 164, Value.ref 165, Value.int 0, Value.int 0, Value.ref 166, Value.ref 167, Value.ref 168, Value.ref 169, Value.ref 170, Value.int 0, Value.int (-1), Value.ref 171, Value.ref 172, Value.ref 173, Value.int 0, Value.int 0, Value.ref 174, Value.ref 175, Value.ref 176, Value.ref 177, Value.ref 178, Value.int 0, Value.ref 179, Value.int 0, Value.ref 180, Value.ref 181, Value.ref 182, Value.ref 183, Value.ref 184] : List Value))).set 173 (13, ((List.replicate 125 (Value.int (-2)))))) = true := by decide +kernel
set_option maxRecDepth 1000000 in
theorem s_clj_46 : s_out (s_x s_prog s_fty s_ft (s_rows 2 0 (fun _ => 0)) 3726 1299 s_e153.1 0 (lv_args 0 [.ref 0, .int 11, .int 1]) [] s_M0) (some (.int (-2))) s_M0 s_M0 = true := by decide +kernel
set_option maxRecDepth 1000000 in
theorem s_clj_47 : s_out (s_x s_prog s_fty s_ft (s_rows 2 0 (fun _ => 0)) 1842 1299 s_e257.1 0 (lv_args 0 [.ref 151, .int 11, .int 1]) [] s_M0) (some (.int (-2))) s_M0 ((s_M0.set 151 (11, ([Value.int 0, Value.ref 152, Value.int 0, Value.int 0, Value.int 0, Value.int 0, Value.int 0, Value.ref 153, Value.ref 154, Value.ref 155, Value.ref 156, Value.ref 157, Value.ref 158, Value.ref 159, Value.int 0, Value.ref 160, Value.ref 161, Value.ref 162, Value.int 0, Value.int 99, Value.ref 163, Value.ref 164, Value.ref 165, Value.int 0, Value.int 0, Value.ref 166, Value.ref 167, Value.ref 168, Value.ref 169, Value.ref 170, Value.int 0, Value.int (-1), Value.ref 171, Value.ref 172, Value.ref 173, Value.int 0, Value.int 0, Value.ref 174, Value.ref 175, Value.ref 176, Value.ref 177, Value.ref 178, Value.int 0, Value.ref 179, Value.int 0, Value.ref 180, Value.ref 181, Value.ref 182, Value.ref 183, Value.ref 184] : List Value))).set 173 (13, ((List.replicate 125 (Value.int (-2)))))) = true := by decide +kernel
set_option maxRecDepth 1000000 in
theorem s_clj_48 : s_out (s_x s_prog s_fty s_ft (s_rows 2 0 (fun _ => 0)) 2636 1299 s_e153.1 0 (lv_args 0 [.ref 0, .int 12, .int 0]) [] s_M0) (some (.int 0)) s_M0 s_M0 = true := by decide +kernel
set_option maxRecDepth 1000000 in
theorem s_clj_49 : s_out (s_x s_prog s_fty s_ft (s_rows 2 0 (fun _ => 0)) 1843 1299 s_e257.1 0 (lv_args 0 [.ref 151, .int 12, .int 0]) [] s_M0) (some (.int 0)) s_M0 ((s_M0.set 151 (11, ([Value.int 0, Value.ref 152, Value.int 0, Value.int 0, Value.int 0, Value.int 0, Value.int 0, Value.ref 153, Value.ref 154, Value.ref 155, Value.ref 156, Value.ref 157, Value.ref 158, Value.ref 159, Value.int 0, Value.ref 160, Value.ref 161, Value.ref 162, Value.int 0, Value.int 99, Value.ref 163, Value.ref 164, Value.ref 165, Value.int 0, Value.int 0, Value.ref 166, Value.ref 167, Value.ref 168, Value.ref 169, Value.ref 170, Value.int 0, Value.int (-1), Value.ref 171, Value.ref 172, Value.ref 173, Value.int 0, Value.int 0, Value.ref 174, Value.ref 175, Value.ref 176, Value.ref 177, Value.ref 178, Value.int 0, Value.ref 179, Value.int 0, Value.ref 180, Value.ref 181, Value.ref 182, Value.ref 183, Value.ref 184] : List Value))).set 173 (13, ((List.replicate 125 (Value.int (-2)))))) = true := by decide +kernel
set_option maxRecDepth 1000000 in
theorem s_clj_50 : s_out (s_x s_prog s_fty s_ft (s_rows 2 0 (fun _ => 0)) 3726 1299 s_e153.1 0 (lv_args 0 [.ref 0, .int 12, .int 1]) [] s_M0) (some (.int (-2))) s_M0 s_M0 = true := by decide +kernel
set_option maxRecDepth 1000000 in
theorem s_clj_51 : s_out (s_x s_prog s_fty s_ft (s_rows 2 0 (fun _ => 0)) 1842 1299 s_e257.1 0 (lv_args 0 [.ref 151, .int 12, .int 1]) [] s_M0) (some (.int (-2))) s_M0 ((s_M0.set 151 (11, ([Value.int 0, Value.ref 152, Value.int 0, Value.int 0, Value.int 0, Value.int 0, Value.int 0, Value.ref 153, Value.ref 154, Value.ref 155, Value.ref 156, Value.ref 157, Value.ref 158, Value.ref 159, Value.int 0, Value.ref 160, Value.ref 161, Value.ref 162, Value.int 0, Value.int 99, Value.ref 163, Value.ref 164, Value.ref 165, Value.int 0, Value.int 0, Value.ref 166, Value.ref 167, Value.ref 168, Value.ref 169, Value.ref 170, Value.int 0, Value.int (-1), Value.ref 171, Value.ref 172, Value.ref 173, Value.int 0, Value.int 0, Value.ref 174, Value.ref 175, Value.ref 176, Value.ref 177, Value.ref 178, Value.int 0, Value.ref 179, Value.int 0, Value.ref 180, Value.ref 181, Value.ref 182, Value.ref 183, Value.ref 184] : List Value))).set 173 (13, ((List.replicate 125 (Value.int (-2)))))) = true := by decide +kernel
set_option maxRecDepth 1000000 in
theorem s_clj_52 : s_out (s_x s_prog s_fty s_ft (s_rows 2 0 (fun _ => 0)) 2636 1299 s_e153.1 0 (lv_args 0 [.ref 0, .int 13, .int 0]) [] s_M0) (some (.int 0)) s_M0 s_M0 = true := by decide +kernel
set_option maxRecDepth 1000000 in
theorem s_clj_53 : s_out (s_x s_prog s_fty s_ft (s_rows 2 0 (fun _ => 0)) 1843 1299 s_e257.1 0 (lv_args 0 [.ref 151, .int 13, .int 0]) [] s_M0) (some (.int 0)) s_M0 ((s_M0.set 151 (11, ([Value.int 0, Value.ref 152, Value.int 0, Value.int 0, Value.int 0, Value.int 0, Value.int 0, Value.ref 153, Value.ref 154, Value.ref 155, Value.ref 156, Value.ref 157, Value.ref 158, Value.ref 159, Value.int 0, Value.ref 160, Value.ref 161, Value.ref 162, Value.int 0, Value.int 99, Value.ref 163, Value.ref 164, Value.ref 165, Value.int 0, Value.int 0, Value.ref 166, Value.ref 167, Value.ref 168, Value.ref 169, Value.ref 170, Value.int 0, Value.int (-1), Value.ref 171, Value.ref 172, Value.ref 173, Value.int 0, Value.int 0, Value.ref 174, Value.ref 175, Value.ref 176, Value.ref 177, Value.ref 178, Value.int 0, Value.ref 179, Value.int 0, Value.ref 180, Value.ref 181, Value.ref 182, Value.ref 183, Value.ref 184] : List Value))).set 173 (13, ((List.replicate 125 (Value.int (-2)))))) = true := by decide +kernel
set_option maxRecDepth 1000000 in
theorem s_clj_54 : s_out (s_x s_prog s_fty s_ft (s_rows 2 0 (fun _ => 0)) 3726 1299 s_e153.1 0 (lv_args 0 [.ref 0, .int 13, .int 1]) [] s_M0) (some (.int (-2))) s_M0 s_M0 = true := by decide +kernel
set_option maxRecDepth 1000000 in
theorem s_clj_55 : s_out (s_x s_prog s_fty s_ft (s_rows 2 0 (fun _ => 0)) 1842 1299 s_e257.1 0 (lv_args 0 [.ref 151, .int 13, .int 1]) [] s_M0) (some (.int (-2))) s_M0 ((s_M0.set 151 (11, ([Value.int 0, Value.ref 152, Value.int 0, Value.int 0, Value.int 0, Value.int 0, Value.int 0, Value.ref 153, Value.ref 154, Value.ref 155, Value.ref 156, Value.ref 157, Value.ref 158, Value.ref 159, Value.int 0, Value.ref 160, Value.ref 161, Value.ref 162, Value.int 0, Value.int 99, Value.ref 163, Value.ref 164, Value.ref 165, Value.int 0, Value.int 0, Value.ref 166, Value.ref 167, Value.ref 168, Value.ref 169, Value.ref 170, Value.int 0, Value.int (-1), Value.ref 171, Value.ref 172, Value.ref 173, Value.int 0, Value.int 0, Value.ref 174, Value.ref 175, Value.ref 176, Value.ref 177, Value.ref 178, Value.int 0, Value.ref 179, Value.int 0, Value.ref 180, Value.ref 181, Value.ref 182, Value.ref 183, Value.ref 184] : List Value))).set 173 (13, ((List.replicate 125 (Value.int (-2)))))) = true := by decide +kernel
set_option maxRecDepth 1000000 in
theorem s_clj_56 : s_out (s_x s_prog s_fty s_ft (s_rows 2 0 (fun _ => 0)) 68 1299 s_e153.1 0 (lv_args 0 [.ref 0, .int 14, .int 0]) [] s_M0) (some (.int (-1))) s_M0 s_M0 = true := by decide +kernel
set_option maxRecDepth 1000000 in
theorem s_clj_57 : s_out (s_x s_prog s_fty s_ft (s_rows 2 0 (fun _ => 0)) 64 1299 s_e257.1 0 (lv_args 0 [.ref 151, .int 14, .int 0]) [] s_M0) (some (.int (-1))) s_M0 s_M0 = true := by decide +kernel
set_option maxRecDepth 1000000 in
theorem s_clj_58 : s_out (s_x s_prog s_fty s_ft (s_rows 2 0 (fun _ => 0)) 68 1299 s_e153.1 0 (lv_args 0 [.ref 0, .int 14, .int 1]) [] s_M0) (some (.int (-1))) s_M0 s_M0 = true := by decide +kernel
set_option maxRecDepth 1000000 in
theorem s_clj_59 : s_out (s_x s_prog s_fty s_ft (s_rows 2 0 (fun _ => 0)) 64 1299 s_e257.1 0 (lv_args 0 [.ref 151, .int 14, .int 1]) [] s_M0) (some (.int (-1))) s_M0 s_M0 = true := by decide +kernel
set_option maxRecDepth 1000000 in
theorem s_clj_60 : s_out (s_x s_prog s_fty s_ft (s_rows 2 0 (fun _ => 0)) 68 1299 s_e153.1 0 (lv_args 0 [.ref 0, .int 15, .int 0]) [] s_M0) (some (.int (-1))) s_M0 s_M0 = true := by decide +kernel
set_option maxRecDepth 1000000 in
theorem s_clj_61 : s_out (s_x s_prog s_fty s_ft (s_rows 2 0 (fun _ => 0)) 64 1299 s_e257.1 0 (lv_args 0 [.ref 151, .int 15, .int 0]) [] s_M0) (some (.int (-1))) s_M0 s_M0 = true := by decide +kernel
set_option maxRecDepth 1000000 in
theorem s_clj_62 : s_out (s_x s_prog s_fty s_ft (s_rows 2 0 (fun _ => 0)) 68 1299 s_e153.1 0 (lv_args 0 [.ref 0, .int 15, .int 1]) [] s_M0) (some (.int (-1))) s_M0 s_M0 = true := by decide +kernel
set_option maxRecDepth 1000000 in
theorem s_clj_63 : s_out (s_x s_prog s_fty s_ft (s_rows 2 0 (fun _ => 0)) 64 1299 s_e257.1 0 (lv_args 0 [.ref 151, .int 15, .int 1]) [] s_M0) (some (.int (-1))) s_M0 s_M0 = true := by decide +kernel
set_option maxRecDepth 1000000 in
theorem s_clj_64 : s_out (s_x s_prog s_fty s_ft (s_rows 2 0 (fun _ => 0)) 68 1299 s_e153.1 0 (lv_args 0 [.ref 0, .int 16, .int 0]) [] s_M0) (some (.int (-1))) s_M0 s_M0 = true := by decide +kernel
set_option maxRecDepth 1000000 in
theorem s_clj_65 : s_out (s_x s_prog s_fty s_ft (s_rows 2 0 (fun _ => 0)) 64 1299 s_e257.1 0 (lv_args 0 [.ref 151, .int 16, .int 0]) [] s_M0) (some (.int (-1))) s_M0 s_M0 = true := by decide +kernel
set_option maxRecDepth 1000000 in
theorem s_clj_66 : s_out (s_x s_prog s_fty s_ft (s_rows 2 0 (fun _ => 0)) 68 1299 s_e153.1 0 (lv_args 0 [.ref 0, .int 16, .int 1]) [] s_M0) (some (.int (-1))) s_M0 s_M0 = true := by decide +kernel
set_option maxRecDepth 1000000 in
theorem s_clj_67 : s_out (s_x s_prog s_fty s_ft (s_rows 2 0 (fun _ => 0)) 64 1299 s_e257.1 0 (lv_args 0 [.ref 151, .int 16, .int 1]) [] s_M0) (some (.int (-1))) s_M0 s_M0 = true := by decide +kernel
set_option maxRecDepth 1000000 in
theorem s_clj_68 : s_out (s_x s_prog s_fty s_ft (s_rows 2 0 (fun _ => 0)) 68 1299 s_e153.1 0 (lv_args 0 [.ref 0, .int 17, .int 0]) [] s_M0) (some (.int (-1))) s_M0 s_M0 = true := by decide +kernel
set_option maxRecDepth 1000000 in
theorem s_clj_69 : s_out (s_x s_prog s_fty s_ft (s_rows 2 0 (fun _ => 0)) 64 1299 s_e257.1 0 (lv_args 0 [.ref 151, .int 17, .int 0]) [] s_M0) (some (.int (-1))) s_M0 s_M0 = true := by decide +kernel
set_option maxRecDepth 1000000 in
theorem s_clj_70 : s_out (s_x s_prog s_fty s_ft (s_rows 2 0 (fun _ => 0)) 68 1299 s_e153.1 0 (lv_args 0 [.ref 0, .int 17, .int 1]) [] s_M0) (some (.int (-1))) s_M0 s_M0 = true := by decide +kernel
set_option maxRecDepth 1000000 in
theorem s_clj_71 : s_out (s_x s_prog s_fty s_ft (s_rows 2 0 (fun _ => 0)) 64 1299 s_e257.1 0 (lv_args 0 [.ref 151, .int 17, .int 1]) [] s_M0) (some (.int (-1))) s_M0 s_M0 = true := by decide +kernel
set_option maxRecDepth 1000000 in
theorem s_clj_72 : s_out (s_x s_prog s_fty s_ft (s_rows 2 0 (fun _ => 0)) 68 1299 s_e153.1 0 (lv_args 0 [.ref 0, .int 18, .int 0]) [] s_M0) (some (.int (-1))) s_M0 s_M0 = true := by decide +kernel
set_option maxRecDepth 1000000 in
theorem s_clj_73 : s_out (s_x s_prog s_fty s_ft (s_rows 2 0 (fun _ => 0)) 64 1299 s_e257.1 0 (lv_args 0 [.ref 151, .int 18, .int 0]) [] s_M0) (some (.int (-1))) s_M0 s_M0 = true := by decide +kernel
set_option maxRecDepth 1000000 in
theorem s_clj_74 : s_out (s_x s_prog s_fty s_ft (s_rows 2 0 (fun _ => 0)) 68 1299 s_e153.1 0 (lv_args 0 [.ref 0, .int 18, .int 1]) [] s_M0) (some (.int (-1))) s_M0 s_M0 = true := by decide +kernel
set_option maxRecDepth 1000000 in
theorem s_clj_75 : s_out (s_x s_prog s_fty s_ft (s_rows 2 0 (fun _ => 0)) 64 1299 s_e257.1 0 (lv_args 0 [.ref 151, .int 18, .int 1]) [] s_M0) (some (.int (-1))) s_M0 s_M0 = true := by decide +kernel
set_option maxRecDepth 1000000 in
theorem s_clj_76 : s_out (s_x s_prog s_fty s_ft (s_rows 2 0 (fun _ => 0)) 68 1299 s_e153.1 0 (lv_args 0 [.ref 0, .int 19, .int 0]) [] s_M0) (some (.int (-1))) s_M0 s_M0 = true := by decide +kernel
set_option maxRecDepth 1000000 in
theorem s_clj_77 : s_out (s_x s_prog s_fty s_ft (s_rows 2 0 (fun _ => 0)) 64 1299 s_e257.1 0 (lv_args 0 [.ref 151, .int 19, .int 0]) [] s_M0) (some (.int (-1))) s_M0 s_M0 = true := by decide +kernel
set_option maxRecDepth 1000000 in
theorem s_clj_78 : s_out (s_x s_prog s_fty s_ft (s_rows 2 0 (fun _ => 0)) 68 1299 s_e153.1 0 (lv_args 0 [.ref 0, .int 19, .int 1]) [] s_M0) (some (.int (-1))) s_M0 s_M0 = true := by decide +kernel
set_option maxRecDepth 1000000 in
theorem s_clj_79 : s_out (s_x s_prog s_fty s_ft (s_rows 2 0 (fun _ => 0)) 64 1299 s_e257.1 0 (lv_args 0 [.ref 151, .int 19, .int 1]) [] s_M0) (some (.int (-1))) s_M0 s_M0 = true := by decide +kernel
set_option maxRecDepth 1000000 in
theorem s_clj_80 : s_out (s_x s_prog s_fty s_ft (s_rows 2 0 (fun _ => 0)) 2636 1299 s_e153.1 0 (lv_args 0 [.ref 0, .int 20, .int 0]) [] s_M0) (some (.int 0)) s_M0 s_M0 = true := by decide +kernel
set_option maxRecDepth 1000000 in
theorem s_clj_81 : s_out (s_x s_prog s_fty s_ft (s_rows 2 0 (fun _ => 0)) 1843 1299 s_e257.1 0 (lv_args 0 [.ref 151, .int 20, .int 0]) [] s_M0) (some (.int 0)) s_M0 ((s_M0.set 151 (11, ([Value.int 0, Value.ref 152, Value.int 0, Value.int 0, Value.int 0, Value.int 0, Value.int 0, Value.ref 153, Value.ref 154, Value.ref 155, Value.ref 156, Value.ref 157, Value.ref 158, Value.ref 159, Value.int 0, Value.ref 160, Value.ref 161, Value.ref 162, Value.int 0, Value.int 99, Value.ref 163, Value.ref 164, Value.ref 165, Value.int 0, Value.int 0, Value.ref 166, Value.ref 167, Value.ref 168, Value.ref 169, Value.ref 170, Value.int 0, Value.int (-1), Value.ref 171, Value.ref 172, Value.ref 173, Value.int 0, Value.int 0, Value.ref 174, Value.ref 175, Value.ref 176, Value.ref 177, Value.ref 178, Value.int 0, Value.ref 179, Value.int 0, Value.ref 180, Value.ref 181, Value.ref 182, Value.ref 183, Value.ref 184] : List Value))).set 173 (13, ((List.replicate 125 (Value.int (-2)))))) = true := by decide +kernel
set_option maxRecDepth 1000000 in
theorem s_clj_82 : s_out (s_x s_prog s_fty s_ft (s_rows 2 0 (fun _ => 0)) 3726 1299 s_e153.1 0 (lv_args 0 [.ref 0, .int 20, .int 1]) [] s_M0) (some (.int (-2))) s_M0 s_M0 = true := by decide +kernel
set_option maxRecDepth 1000000 in
theorem s_clj_83 : s_out (s_x s_prog s_fty s_ft (s_rows 2 0 (fun _ => 0)) 1842 1299 s_e257.1 0 (lv_args 0 [.ref 151, .int 20, .int 1]) [] s_M0) (some (.int (-2))) s_M0 ((s_M0.set 151 (11, ([Value.int 0, Value.ref 152, Value.int 0, Value.int 0, Value.int 0, Value.int 0, Value.int 0, Value.ref 153, Value.ref 154, Value.ref 155, Value.ref 156, Value.ref 157, Value.ref 158, Value.ref 159, Value.int 0, Value.ref 160, Value.ref 161, Value.ref 162, Value.int 0, Value.int 99, Value.ref 163, Value.ref 164, Value.ref 165, Value.int 0, Value.int 0, Value.ref 166, Value.ref 167, Value.ref 168, Value.ref 169, Value.ref 170, Value.int 0, Value.int (-1), Value.ref 171, Value.ref 172, Value.ref 173, Value.int 0, Value.int 0, Value.ref 174, Value.ref 175, Value.ref 176, Value.ref 177, Value.ref 178, Value.int 0, Value.ref 179, Value.int 0, Value.ref 180, Value.ref 181, Value.ref 182, Value.ref 183, Value.ref 184] : List Value))).set 173 (13, ((List.replicate 125 (Value.int (-2)))))) = true := by decide +kernel
set_option maxRecDepth 1000000 in
theorem s_clj_84 : s_out (s_x s_prog s_fty s_ft (s_rows 2 0 (fun _ => 0)) 2636 1299 s_e153.1 0 (lv_args 0 [.ref 0, .int 21, .int 0]) [] s_M0) (some (.int 0)) s_M0 s_M0 = true := by decide +kernel
set_option maxRecDepth 1000000 in
theorem s_clj_85 : s_out (s_x s_prog s_fty s_ft (s_rows 2 0 (fun _ => 0)) 1843 1299 s_e257.1 0 (lv_args 0 [.ref 151, .int 21, .int 0]) [] s_M0) (some (.int 0)) s_M0 ((s_M0.set 151 (11, ([Value.int 0, Value.ref 152, Value.int 0, Value.int 0, Value.int 0, Value.int 0, Value.int 0, Value.ref 153, Value.ref 154, Value.ref 155, Value.ref 156, Value.ref 157, Value.ref 158, Value.ref 159, Value.int 0, Value.ref 160, Value.ref 161, Value.ref 162, Value.int 0, Value.int 99, Value.ref 163, Value.ref 164, Value.ref 165, Value.int 0, Value.int 0, Value.ref 166, Value.ref 167, Value.ref 168, Value.ref 169, Value.ref 170, Value.int 0, Value.int (-1), Value.ref 171, Value.ref 172, Value.ref 173, Value.int 0, Value.int 0, Value.ref 174, Value.ref 175, Value.ref 176, Value.ref 177, Value.ref 178, Value.int 0, Value.ref 179, Value.int 0, Value.ref 180, Value.ref 181, Value.ref 182, Value.ref 183, Value.ref 184] : List Value))).set 173 (13, ((List.replicate 125 (Value.int (-2)))))) = true := by decide +kernel
set_option maxRecDepth 1000000 in
theorem s_clj_86 : s_out (s_x s_prog s_fty s_ft (s_rows 2 0 (fun _ => 0)) 3726 1299 s_e153.1 0 (lv_args 0 [.ref 0, .int 21, .int 1]) [] s_M0) (some (.int (-2))) s_M0 s_M0 = true := by decide +kernel
set_option maxRecDepth 1000000 in
theorem s_clj_87 : s_out (s_x s_prog s_fty s_ft (s_rows 2 0 (fun _ => 0)) 1842 1299 s_e257.1 0 (lv_args 0 [.ref 151, .int 21, .int 1]) [] s_M0) (some (.int (-2))) s_M0 ((s_M0.set 151 (11, ([Value.int 0, Value.ref 152, Value.int 0, Value.int 0, Value.int 0, Value.int 0, Value.int 0, Value.ref 153, Value.ref 154, Value.ref 155, Value.ref 156, Value.ref 157, Value.ref 158, Value.ref 159, Value.int 0, Value.ref 160, Value.ref 161, Value.ref 162, Value.int 0, Value.int 99, Value.ref 163, Value.ref 164, Value.ref 165, Value.int 0, Value.int 0, Value.ref 166, Value.ref 167, Value.ref 168, Value.ref 169, Value.ref 170, Value.int 0, Value.int (-1), Value.ref 171, Value.ref 172, Value.ref 173, Value.int 0, Value.int 0, Value.ref 174, Value.ref 175, Value.ref 176, Value.ref 177, Value.ref 178, Value.int 0, Value.ref 179, Value.int 0, Value.ref 180, Value.ref 181, Value.ref 182, Value.ref 183, Value.ref 184] : List Value))).set 173 (13, ((List.replicate 125 (Value.int (-2)))))) = true := by decide +kernel
set_option maxRecDepth 1000000 in
theorem s_clj_88 : s_out (s_x s_prog s_fty s_ft (s_rows 2 0 (fun _ => 0)) 2636 1299 s_e153.1 0 (lv_args 0 [.ref 0, .int 22, .int 0]) [] s_M0) (some (.int 0)) s_M0 s_M0 = true := by decide +kernel
set_option maxRecDepth 1000000 in
theorem s_clj_89 : s_out (s_x s_prog s_fty s_ft (s_rows 2 0 (fun _ => 0)) 1843 1299 s_e257.1 0 (lv_args 0 [.ref 151, .int 22, .int 0]) [] s_M0) (some (.int 0)) s_M0 ((s_M0.set 151 (11, ([Value.int 0, Value.ref 152, Value.int 0, Value.int 0, Value.int 0, Value.int 0, Value.int 0, Value.ref 153, Value.ref 154, Value.ref 155, Value.ref 156, Value.ref 157, Value.ref 158, Value.ref 159, Value.int 0, Value.ref 160, Value.ref 161, Value.ref 162, Value.int 0, Value.int 99, Value.ref 163, Value.ref 164, Value.ref 165, Value.int 0, Value.int 0, Value.ref 166, Value.ref 167, Value.ref 168, Value.ref 169, Value.ref 170, Value.int 0, Value.int (-1), Value.ref 171, Value.ref 172, Value.ref 173, Value.int 0, Value.int 0, Value.ref 174, Value.ref 175, Value.ref 176, Value.ref 177, Value.ref 178, Value.int 0, Value.ref 179, Value.int 0, Value.ref 180, Value.ref 181, Value.ref 182, Value.ref 183, Value.ref 184] : List Value))).set 173 (13, ((List.replicate 125 (Value.int (-2)))))) = true := by decide +kernel
set_option maxRecDepth 1000000 in
theorem s_clj_90 : s_out (s_x s_prog s_fty s_ft (s_rows 2 0 (fun _ => 0)) 3726 1299 s_e153.1 0 (lv_args 0 [.ref 0, .int 22, .int 1]) [] s_M0) (some (.int (-2))) s_M0 s_M0 = true := by decide +kernel
set_option maxRecDepth 1000000 in
theorem s_clj_91 : s_out (s_x s_prog s_fty s_ft (s_rows 2 0 (fun _ => 0)) 1842 1299 s_e257.1 0 (lv_args 0 [.ref 151, .int 22, .int 1]) [] s_M0) (some (.int (-2))) s_M0 ((s_M0.set 151 (11, ([Value.int 0, Value.ref 152, Value.int 0, Value.int 0, Value.int 0, Value.int 0, Value.int 0, Value.ref 153, Value.ref 154, Value.ref 155, Value.ref 156, Value.ref 157, Value.ref 158, Value.ref 159, Value.int 0, Value.ref 160, Value.ref 161, Value.ref 162, Value.int 0, Value.int 99, Value.ref 163, Value.ref 164, Value.ref 165, Value.int 0, Value.int 0, Value.ref 166, Value.ref 167, Value.ref 168, Value.ref 169, Value.ref 170, Value.int 0, Value.int (-1), Value.ref 171, Value.ref 172, Value.ref 173, Value.int 0, Value.int 0, Value.ref 174, Value.ref 175, Value.ref 176, Value.ref 177, Value.ref 178, Value.int 0, Value.ref 179, Value.int 0, Value.ref 180, Value.ref 181, Value.ref 182, Value.ref 183, Value.ref 184] : List Value))).set 173 (13, ((List.replicate 125 (Value.int (-2)))))) = true := by decide +kernel
set_option maxRecDepth 1000000 in
theorem s_clj_92 : s_out (s_x s_prog s_fty s_ft (s_rows 2 0 (fun _ => 0)) 2636 1299 s_e153.1 0 (lv_args 0 [.ref 0, .int 23, .int 0]) [] s_M0) (some (.int 0)) s_M0 s_M0 = true := by decide +kernel
set_option maxRecDepth 1000000 in
theorem s_clj_93 : s_out (s_x s_prog s_fty s_ft (s_rows 2 0 (fun _ => 0)) 1843 1299 s_e257.1 0 (lv_args 0 [.ref 151, .int 23, .int 0]) [] s_M0) (some (.int 0)) s_M0 ((s_M0.set 151 (11, ([Value.int 0, Value.ref 152, Value.int 0, Value.int 0, Value.int 0, Value.int 0, Value.int 0, Value.ref 153, Value.ref 154, Value.ref 155, Value.ref 156, Value.ref 157, Value.ref 158, Value.ref 159, Value.int 0, Value.ref 160, Value.ref 161, Value.ref 162, Value.int 0, Value.int 99, Value.ref 163, Value.ref 164, Value.ref 165, Value.int 0, Value.int 0, Value.ref 166, Value.ref 167, Value.ref 168, Value.ref 169, Value.ref 170, Value.int 0, Value.int (-1), Value.ref 171, Value.ref 172, Value.ref 173, Value.int 0, Value.int 0, Value.ref 174, Value.ref 175, Value.ref 176, Value.ref 177, Value.ref 178, Value.int 0, Value.ref 179, Value.int 0, Value.ref 180, Value.ref 181, Value.ref 182, Value.ref 183, Value.ref 184] : List Value))).set 173 (13, ((List.replicate 125 (Value.int (-2)))))) = true := by decide +kernel
set_option maxRecDepth 1000000 in
theorem s_clj_94 : s_out (s_x s_prog s_fty s_ft (s_rows 2 0 (fun _ => 0)) 3726 1299 s_e153.1 0 (lv_args 0 [.ref 0, .int 23, .int 1]) [] s_M0) (some (.int (-2))) s_M0 s_M0 = true := by decide +kernel
set_option maxRecDepth 1000000 in
theorem s_clj_95 : s_out (s_x s_prog s_fty s_ft (s_rows 2 0 (fun _ => 0)) 1842 1299 s_e257.1 0 (lv_args 0 [.ref 151, .int 23, .int 1]) [] s_M0) (some (.int (-2))) s_M0 ((s_M0.set 151 (11, ([Value.int 0, Value.ref 152, Value.int 0, Value.int 0, Value.int 0, Value.int 0, Value.int 0, Value.ref 153, Value.ref 154, Value.ref 155, Value.ref 156, Value.ref 157, Value.ref 158, Value.ref 159, Value.int 0, Value.ref 160, Value.ref 161, Value.ref 162, Value.int 0, Value.int 99, Value.ref 163, Value.ref 164, Value.ref 165, Value.int 0, Value.int 0, Value.ref 166, Value.ref 167, Value.ref 168, Value.ref 169, Value.ref 170, Value.int 0, Value.int (-1), Value.ref 171, Value.ref 172, Value.ref 173, Value.int 0, Value.int 0, Value.ref 174, Value.ref 175, Value.ref 176, Value.ref 177, Value.ref 178, Value.int 0, Value.ref 179, Value.int 0, Value.ref 180, Value.ref 181, Value.ref 182, Value.ref 183, Value.ref 184] : List Value))).set 173 (13, ((List.replicate 125 (Value.int (-2)))))) = true := by decide +kernel
set_option maxRecDepth 1000000 in
theorem s_clj_96 : s_out (s_x s_prog s_fty s_ft (s_rows 2 0 (fun _ => 0)) 68 1299 s_e153.1 0 (lv_args 0 [.ref 0, .int 24, .int 0]) [] s_M0) (some (.int (-1))) s_M0 s_M0 = true := by decide +kernel
set_option maxRecDepth 1000000 in
theorem s_clj_97 : s_out (s_x s_prog s_fty s_ft (s_rows 2 0 (fun _ => 0)) 64 1299 s_e257.1 0 (lv_args 0 [.ref 151, .int 24, .int 0]) [] s_M0) (some (.int (-1))) s_M0 s_M0 = true := by decide +kernel
set_option maxRecDepth 1000000 in
theorem s_clj_98 : s_out (s_x s_prog s_fty s_ft (s_rows 2 0 (fun _ => 0)) 68 1299 s_e153.1 0 (lv_args 0 [.ref 0, .int 24, .int 1]) [] s_M0) (some (.int (-1))) s_M0 s_M0 = true := by decide +kernel
set_option maxRecDepth 1000000 in
theorem s_clj_99 : s_out (s_x s_prog s_fty s_ft (s_rows 2 0 (fun _ => 0)) 64 1299 s_e257.1 0 (lv_args 0 [.ref 151, .int 24, .int 1]) [] s_M0) (some (.int (-1))) s_M0 s_M0 = true := by decide +kernel
set_option maxRecDepth 1000000 in
theorem s_clj_100 : s_out (s_x s_prog s_fty s_ft (s_rows 2 0 (fun _ => 0)) 68 1299 s_e153.1 0 (lv_args 0 [.ref 0, .int 25, .int 0]) [] s_M0) (some (.int (-1))) s_M0 s_M0 = true := by decide +kernel
set_option maxRecDepth 1000000 in
theorem s_clj_101 : s_out (s_x s_prog s_fty s_ft (s_rows 2 0 (fun _ => 0)) 64 1299 s_e257.1 0 (lv_args 0 [.ref 151, .int 25, .int 0]) [] s_M0) (some (.int (-1))) s_M0 s_M0 = true := by decide +kernel
set_option maxRecDepth 1000000 in
theorem s_clj_102 : s_out (s_x s_prog s_fty s_ft (s_rows 2 0 (fun _ => 0)) 68 1299 s_e153.1 0 (lv_args 0 [.ref 0, .int 25, .int 1]) [] s_M0) (some (.int (-1))) s_M0 s_M0 = true := by decide +kernel
set_option maxRecDepth 1000000 in
theorem s_clj_103 : s_out (s_x s_prog s_fty s_ft (s_rows 2 0 (fun _ => 0)) 64 1299 s_e257.1 0 (lv_args 0 [.ref 151, .int 25, .int 1]) [] s_M0) (some (.int (-1))) s_M0 s_M0 = true := by decide +kernel
set_option maxRecDepth 1000000 in
theorem s_clj_104 : s_out (s_x s_prog s_fty s_ft (s_rows 2 0 (fun _ => 0)) 68 1299 s_e153.1 0 (lv_args 0 [.ref 0, .int 26, .int 0]) [] s_M0) (some (.int (-1))) s_M0 s_M0 = true := by decide +kernel
set_option maxRecDepth 1000000 in
theorem s_clj_105 : s_out (s_x s_prog s_fty s_ft (s_rows 2 0 (fun _ => 0)) 64 1299 s_e257.1 0 (lv_args 0 [.ref 151, .int 26, .int 0]) [] s_M0) (some (.int (-1))) s_M0 s_M0 = true := by decide +kernel
set_option maxRecDepth 1000000 in
theorem s_clj_106 : s_out (s_x s_prog s_fty s_ft (s_rows 2 0 (fun _ => 0)) 68 1299 s_e153.1 0 (lv_args 0 [.ref 0, .int 26, .int 1]) [] s_M0) (some (.int (-1))) s_M0 s_M0 = true := by decide +kernel
set_option maxRecDepth 1000000 in
theorem s_clj_107 : s_out (s_x s_prog s_fty s_ft (s_rows 2 0 (fun _ => 0)) 64 1299 s_e257.1 0 (lv_args 0 [.ref 151, .int 26, .int 1]) [] s_M0) (some (.int (-1))) s_M0 s_M0 = true := by decide +kernel
set_option maxRecDepth 1000000 in
theorem s_clj_108 : s_out (s_x s_prog s_fty s_ft (s_rows 2 0 (fun _ => 0)) 68 1299 s_e153.1 0 (lv_args 0 [.ref 0, .int 27, .int 0]) [] s_M0) (some (.int (-1))) s_M0 s_M0 = true := by decide +kernel
set_option maxRecDepth 1000000 in
theorem s_clj_109 : s_out (s_x s_prog s_fty s_ft (s_rows 2 0 (fun _ => 0)) 64 1299 s_e257.1 0 (lv_args 0 [.ref 151, .int 27, .int 0]) [] s_M0) (some (.int (-1))) s_M0 s_M0 = true := by decide +kernel
set_option maxRecDepth 1000000 in
theorem s_clj_110 : s_out (s_x s_prog s_fty s_ft (s_rows 2 0 (fun _ => 0)) 68 1299 s_e153.1 0 (lv_args 0 [.ref 0, .int 27, .int 1]) [] s_M0) (some (.int (-1))) s_M0 s_M0 = true := by decide +kernel
set_option maxRecDepth 1000000 in
theorem s_clj_111 : s_out (s_x s_prog s_fty s_ft (s_rows 2 0 (fun _ => 0)) 64 1299 s_e257.1 0 (lv_args 0 [.ref 151, .int 27, .int 1]) [] s_M0) (some (.int (-1))) s_M0 s_M0 = true := by decide +kernel
set_option maxRecDepth 1000000 in
theorem s_clj_112 : s_out (s_x s_prog s_fty s_ft (s_rows 2 0 (fun _ => 0)) 68 1299 s_e153.1 0 (lv_args 0 [.ref 0, .int 28, .int 0]) [] s_M0) (some (.int (-1))) s_M0 s_M0 = true := by decide +kernel
set_option maxRecDepth 1000000 in
theorem s_clj_113 : s_out (s_x s_prog s_fty s_ft (s_rows 2 0 (fun _ => 0)) 64 1299 s_e257.1 0 (lv_args 0 [.ref 151, .int 28, .int 0]) [] s_M0) (some (.int (-1))) s_M0 s_M0 = true := by decide +kernel
set_option maxRecDepth 1000000 in
theorem s_clj_114 : s_out (s_x s_prog s_fty s_ft (s_rows 2 0 (fun _ => 0)) 68 1299 s_e153.1 0 (lv_args 0 [.ref 0, .int 28, .int 1]) [] s_M0) (some (.int (-1))) s_M0 s_M0 = true := by decide +kernel
set_option maxRecDepth 1000000 in
theorem s_clj_115 : s_out (s_x s_prog s_fty s_ft (s_rows 2 0 (fun _ => 0)) 64 1299 s_e257.1 0 (lv_args 0 [.ref 151, .int 28, .int 1]) [] s_M0) (some (.int (-1))) s_M0 s_M0 = true := by decide +kernel
set_option maxRecDepth 1000000 in
theorem s_clj_116 : s_out (s_x s_prog s_fty s_ft (s_rows 2 0 (fun _ => 0)) 68 1299 s_e153.1 0 (lv_args 0 [.ref 0, .int 29, .int 0]) [] s_M0) (some (.int (-1))) s_M0 s_M0 = true := by decide +kernel
set_option maxRecDepth 1000000 in
theorem s_clj_117 : s_out (s_x s_prog s_fty s_ft (s_rows 2 0 (fun _ => 0)) 64 1299 s_e257.1 0 (lv_args 0 [.ref 151, .int 29, .int 0]) [] s_M0) (some (.int (-1))) s_M0 s_M0 = true := by decide +kernel
set_option maxRecDepth 1000000 in
theorem s_clj_118 : s_out (s_x s_prog s_fty s_ft (s_rows 2 0 (fun _ => 0)) 68 1299 s_e153.1 0 (lv_args 0 [.ref 0, .int 29, .int 1]) [] s_M0) (some (.int (-1))) s_M0 s_M0 = true := by decide +kernel
set_option maxRecDepth 1000000 in
theorem s_clj_119 : s_out (s_x s_prog s_fty s_ft (s_rows 2 0 (fun _ => 0)) 64 1299 s_e257.1 0 (lv_args 0 [.ref 151, .int 29, .int 1]) [] s_M0) (some (.int (-1))) s_M0 s_M0 = true := by decide +kernel
set_option maxRecDepth 1000000 in
theorem s_clj_120 : s_out (s_x s_prog s_fty s_ft (s_rows 2 0 (fun _ => 0)) 2636 1299 s_e153.1 0 (lv_args 0 [.ref 0, .int 30, .int 0]) [] s_M0) (some (.int 0)) s_M0 s_M0 = true := by decide +kernel
set_option maxRecDepth 1000000 in
theorem s_clj_121 : s_out (s_x s_prog s_fty s_ft (s_rows 2 0 (fun _ => 0)) 1843 1299 s_e257.1 0 (lv_args 0 [.ref 151, .int 30, .int 0]) [] s_M0) (some (.int 0)) s_M0 ((s_M0.set 151 (11, ([Value.int 0, Value.ref 152, Value.int 0, Value.int 0, Value.int 0, Value.int 0, Value.int 0, Value.ref 153, Value.ref 154, Value.ref 155, Value.ref 156, Value.ref 157, Value.ref 158, Value.ref 159, Value.int 0, Value.ref 160, Value.ref 161, Value.ref 162, Value.int 0, Value.int 99, Value.ref 163, Value.ref 164, Value.ref 165, Value.int 0, Value.int 0, Value.ref 166, Value.ref 167, Value.ref 168, Value.ref 169, Value.ref 170, Value.int 0, Value.int (-1), Value.ref 171, Value.ref 172, Value.ref 173, Value.int 0, Value.int 0, Value.ref 174, Value.ref 175, Value.ref 176, Value.ref 177, Value.ref 178, Value.int 0, Value.ref 179, Value.int 0, Value.ref 180, Value.ref 181, Value.ref 182, Value.ref 183, Value.ref 184] : List Value))).set 173 (13, ((List.replicate 125 (Value.int (-2)))))) = true := by decide +kernel
set_option maxRecDepth 1000000 in
theorem s_clj_122 : s_out (s_x s_prog s_fty s_ft (s_rows 2 0 (fun _ => 0)) 3726 1299 s_e153.1 0 (lv_args 0 [.ref 0, .int 30, .int 1]) [] s_M0) (some (.int (-2))) s_M0 s_M0 = true := by decide +kernel
set_option maxRecDepth 1000000 in
theorem s_clj_123 : s_out (s_x s_prog s_fty s_ft (s_rows 2 0 (fun _ => 0)) 1842 1299 s_e257.1 0 (lv_args 0 [.ref 151, .int 30, .int 1]) [] s_M0) (some (.int (-2))) s_M0 ((s_M0.set 151 (11, ([Value.int 0, Value.ref 152, Value.int 0, Value.int 0, Value.int 0, Value.int 0, Value.int 0, Value.ref 153, Value.ref 154, Value.ref 155, Value.ref 156, Value.ref 157, Value.ref 158, Value.ref 159, Value.int 0, Value.ref 160, Value.ref 161, Value.ref 162, Value.int 0, Value.int 99, Value.ref 163, Value.ref 164, Value.ref 165, Value.int 0, Value.int 0, Value.ref 166, Value.ref 167, Value.ref 168, Value.ref 169, Value.ref 170, Value.int 0, Value.int (-1), Value.ref 171, Value.ref 172, Value.ref 173, Value.int 0, Value.int 0, Value.ref 174, Value.ref 175, Value.ref 176, Value.ref 177, Value.ref 178, Value.int 0, Value.ref 179, Value.int 0, Value.ref 180, Value.ref 181, Value.ref 182, Value.ref 183, Value.ref 184] : List Value))).set 173 (13, ((List.replicate 125 (Value.int (-2)))))) = true := by decide +kernel
set_option maxRecDepth 1000000 in
theorem s_clj_124 : s_out (s_x s_prog s_fty s_ft (s_rows 2 0 (fun _ => 0)) 2636 1299 s_e153.1 0 (lv_args 0 [.ref 0, .int 31, .int 0]) [] s_M0) (some (.int 0)) s_M0 s_M0 = true := by decide +kernel
set_option maxRecDepth 1000000 in
theorem s_clj_125 : s_out (s_x s_prog s_fty s_ft (s_rows 2 0 (fun _ => 0)) 1843 1299 s_e257.1 0 (lv_args 0 [.ref 151, .int 31, .int 0]) [] s_M0) (some (.int 0)) s_M0 ((s_M0.set 151 (11, ([Value.int 0, Value.ref 152, Value.int 0, Value.int 0, Value.int 0, Value.int 0, Value.int 0, Value.ref 153, Value.ref 154, Value.ref 155, Value.ref 156, Value.ref 157, Value.ref 158, Value.ref 159, Value.int 0, Value.ref 160, Value.ref 161, Value.ref 162, Value.int 0, Value.int 99, Value.ref 163, Value.ref 164, Value.ref 165, Value.int 0, Value.int 0, Value.ref 166, Value.ref 167, Value.ref 168, Value.ref 169, Value.ref 170, Value.int 0, Value.int (-1), Value.ref 171, Value.ref 172, Value.ref 173, Value.int 0, Value.int 0, Value.ref 174, Value.ref 175, Value.ref 176, Value.ref 177, Value.ref 178, Value.int 0, Value.ref 179, Value.int 0, Value.ref 180, Value.ref 181, Value.ref 182, Value.ref 183, Value.ref 184] : List Value))).set 173 (13, ((List.replicate 125 (Value.int (-2)))))) = true := by decide +kernel
set_option maxRecDepth 1000000 in
theorem s_clj_126 : s_out (s_x s_prog s_fty s_ft (s_rows 2 0 (fun _ => 0)) 3726 1299 s_e153.1 0 (lv_args 0 [.ref 0, .int 31, .int 1]) [] s_M0) (some (.int (-2))) s_M0 s_M0 = true := by decide +kernel
set_option maxRecDepth 1000000 in
theorem s_clj_127 : s_out (s_x s_prog s_fty s_ft (s_rows 2 0 (fun _ => 0)) 1842 1299 s_e257.1 0 (lv_args 0 [.ref 151, .int 31, .int 1]) [] s_M0) (some (.int (-2))) s_M0 ((s_M0.set 151 (11, ([Value.int 0, Value.ref 152, Value.int 0, Value.int 0, Value.int 0, Value.int 0, Value.int 0, Value.ref 153, Value.ref 154, Value.ref 155, Value.ref 156, Value.ref 157, Value.ref 158, Value.ref 159, Value.int 0, Value.ref 160, Value.ref 161, Value.ref 162, Value.int 0, Value.int 99, Value.ref 163, Value.ref 164, Value.ref 165, Value.int 0, Value.int 0, Value.ref 166, Value.ref 167, Value.ref 168, Value.ref 169, Value.ref 170, Value.int 0, Value.int (-1), Value.ref 171, Value.ref 172, Value.ref 173, Value.int 0, Value.int 0, Value.ref 174, Value.ref 175, Value.ref 176, Value.ref 177, Value.ref 178, Value.int 0, Value.ref 179, Value.int 0, Value.ref 180, Value.ref 181, Value.ref 182, Value.ref 183, Value.ref 184] : List Value))).set 173 (13, ((List.replicate 125 (Value.int (-2)))))) = true := by decide +kernel
set_option maxRecDepth 1000000 in
theorem s_clj_128 : s_out (s_x s_prog s_fty s_ft (s_rows 2 0 (fun _ => 0)) 2636 1299 s_e153.1 0 (lv_args 0 [.ref 0, .int 32, .int 0]) [] s_M0) (some (.int 0)) s_M0 s_M0 = true := by decide +kernel
set_option maxRecDepth 1000000 in
theorem s_clj_129 : s_out (s_x s_prog s_fty s_ft (s_rows 2 0 (fun _ => 0)) 1843 1299 s_e257.1 0 (lv_args 0 [.ref 151, .int 32, .int 0]) [] s_M0) (some (.int 0)) s_M0 ((s_M0.set 151 (11, ([Value.int 0, Value.ref 152, Value.int 0, Value.int 0, Value.int 0, Value.int 0, Value.int 0, Value.ref 153, Value.ref 154, Value.ref 155, Value.ref 156, Value.ref 157, Value.ref 158, Value.ref 159, Value.int 0, Value.ref 160, Value.ref 161, Value.ref 162, Value.int 0, Value.int 99, Value.ref 163, Value.ref 164, Value.ref 165, Value.int 0, Value.int 0, Value.ref 166, Value.ref 167, Value.ref 168, Value.ref 169, Value.ref 170, Value.int 0, Value.int (-1), Value.ref 171, Value.ref 172, Value.ref 173, Value.int 0, Value.int 0, Value.ref 174, Value.ref 175, Value.ref 176, Value.ref 177, Value.ref 178, Value.int 0, Value.ref 179, Value.int 0, Value.ref 180, Value.ref 181, Value.ref 182, Value.ref 183, Value.ref 184] : List Value))).set 173 (13, ((List.replicate 125 (Value.int (-2)))))) = true := by decide +kernel
set_option maxRecDepth 1000000 in
theorem s_clj_130 : s_out (s_x s_prog s_fty s_ft (s_rows 2 0 (fun _ => 0)) 3726 1299 s_e153.1 0 (lv_args 0 [.ref 0, .int 32, .int 1]) [] s_M0) (some (.int (-2))) s_M0 s_M0 = true := by decide +kernel
set_option maxRecDepth 1000000 in
theorem s_clj_131 : s_out (s_x s_prog s_fty s_ft (s_rows 2 0 (fun _ => 0)) 1842 1299 s_e257.1 0 (lv_args 0 [.ref 151, .int 32, .int 1]) [] s_M0) (some (.int (-2))) s_M0 ((s_M0.set 151 (11, ([Value.int 0, Value.ref 152, Value.int 0, Value.int 0, Value.int 0, Value.int 0, Value.int 0, Value.ref 153, Value.ref 154, Value.ref 155, Value.ref 156, Value.ref 157, Value.ref 158, Value.ref 159, Value.int 0, Value.ref 160, Value.ref 161, Value.ref 162, Value.int 0, Value.int 99, Value.ref 163, Value.ref 164, Value.ref 165, Value.int 0, Value.int 0, Value.ref 166, Value.ref 167, Value.ref 168, Value.ref 169, Value.ref 170, Value.int 0, Value.int (-1), Value.ref 171, Value.ref 172, Value.ref 173, Value.int 0, Value.int 0, Value.ref 174, Value.ref 175, Value.ref 176, Value.ref 177, Value.ref 178, Value.int 0, Value.ref 179, Value.int 0, Value.ref 180, Value.ref 181, Value.ref 182, Value.ref 183, Value.ref 184] : List Value))).set 173 (13, ((List.replicate 125 (Value.int (-2)))))) = true := by decide +kernel
set_option maxRecDepth 1000000 in
theorem s_clj_132 : s_out (s_x s_prog s_fty s_ft (s_rows 2 0 (fun _ => 0)) 2636 1299 s_e153.1 0 (lv_args 0 [.ref 0, .int 33, .int 0]) [] s_M0) (some (.int 0)) s_M0 s_M0 = true := by decide +kernel
set_option maxRecDepth 1000000 in
theorem s_clj_133 : s_out (s_x s_prog s_fty s_ft (s_rows 2 0 (fun _ => 0)) 1843 1299 s_e257.1 0 (lv_args 0 [.ref 151, .int 33, .int 0]) [] s_M0) (some (.int 0)) s_M0 ((s_M0.set 151 (11, ([Value.int 0, Value.ref 152, Value.int 0, Value.int 0, Value.int 0, Value.int 0, Value.int 0, Value.ref 153, Value.ref 154, Value.ref 155, Value.ref 156, Value.ref 157, Value.ref 158, Value.ref 159, Value.int 0, Value.ref 160, Value.ref 161, Value.ref 162, Value.int 0, Value.int 99, Value.ref 163, Value.ref 164, Value.ref 165, Value.int 0, Value.int 0, Value.ref 166, Value.ref 167, Value.ref 168, Value.ref 169, Value.ref 170, Value.int 0, Value.int (-1), Value.ref 171, Value.ref 172, Value.ref 173, Value.int 0, Value.int 0, Value.ref 174, Value.ref 175, Value.ref 176, Value.ref 177, Value.ref 178, Value.int 0, Value.ref 179, Value.int 0, Value.ref 180, Value.ref 181, Value.ref 182, Value.ref 183, Value.ref 184] : List Value))).set 173 (13, ((List.replicate 125 (Value.int (-2)))))) = true := by decide +kernel
set_option maxRecDepth 1000000 in
theorem s_clj_134 : s_out (s_x s_prog s_fty s_ft (s_rows 2 0 (fun _ => 0)) 3726 1299 s_e153.1 0 (lv_args 0 [.ref 0, .int 33, .int 1]) [] s_M0) (some (.int (-2))) s_M0 s_M0 = true := by decide +kernel
set_option maxRecDepth 1000000 in
theorem s_clj_135 : s_out (s_x s_prog s_fty s_ft (s_rows 2 0 (fun _ => 0)) 1842 1299 s_e257.1 0 (lv_args 0 [.ref 151, .int 33, .int 1]) [] s_M0) (some (.int (-2))) s_M0 ((s_M0.set 151 (11, ([Value.int 0, Value.ref 152, Value.int 0, Value.int 0, Value.int 0, Value.int 0, Value.int 0, Value.ref 153, Value.ref 154, Value.ref 155, Value.ref 156, Value.ref 157, Value.ref 158, Value.ref 159, Value.int 0, Value.ref 160, Value.ref 161, Value.ref 162, Value.int 0, Value.int 99, Value.ref 163, Value.ref 164, Value.ref 165, Value.int 0, Value.int 0, Value.ref 166, Value.ref 167, Value.ref 168, Value.ref 169, Value.ref 170, Value.int 0, Value.int (-1), Value.ref 171, Value.ref 172, Value.ref 173, Value.int 0, Value.int 0, Value.ref 174, Value.ref 175, Value.ref 176, Value.ref 177, Value.ref 178, Value.int 0, Value.ref 179, Value.int 0, Value.ref 180, Value.ref 181, Value.ref 182, Value.ref 183, Value.ref 184] : List Value))).set 173 (13, ((List.replicate 125 (Value.int (-2)))))) = true := by decide +kernel
set_option maxHeartbeats 20000000 in
set_option maxRecDepth 100000 in
theorem s_op_unlike (L : Nat) (xs : Nat → Int32) (a : Int32) (b : Int32) : s_Ek (s_rows 3 L xs) 1299 s_e153.1 0 (lv_args 0 [.ref 0, .int a, .int b]) [] s_M0 (fun v M1 => ∃ r : Int32, v = some (.int r) ∧ s_Ek (s_rows 3 L xs) 1299 s_e257.1 0 (lv_args 0 [.ref 151, .int a, .int b]) [] M1 (fun w _ => w = some (.int r))) := by
  rcases Int.lt_or_le a.toInt 0 with h1 | h1
  · rcases Int.lt_or_le b.toInt 0 with h3 | h3
    · show s_Ek (s_rows 3 L xs) 1299 s_e153.1 0 [(0, .ref 0), (1, .int a), (2, .int b)] [] s_M0 _
      refine s_ek_bk 1 (P := 1) (ls' := [(0, .ref 0), (1, .int a), (2, .int b)]) (st' := [.int a]) (M' := s_M0) rfl ?_
      refine s_ek_if1 (T := 31) rfl rfl (fun h5 => ?_) (fun h5 => ?_)
      · replace h5 : a.toInt < 0 := h5
        refine s_ek_bk 1 (P := 32) (ls' := [(0, .ref 0), (1, .int a), (2, .int b)]) (st' := [.int (-1)]) (M' := s_M0) rfl ?_
        refine s_ek_ret (o := some (.int (-1))) (fun _ => rfl) ?_
        refine ⟨(-1), rfl, ?_⟩
        show s_Ek (s_rows 3 L xs) 1299 s_e257.1 0 [(0, .ref 151), (1, .int a), (2, .int b)] [] s_M0 _
        refine s_ek_bk 1 (P := 1) (ls' := [(0, .ref 151), (1, .int a), (2, .int b)]) (st' := [.int a]) (M' := s_M0) rfl ?_
        refine s_ek_if1 (T := 29) rfl rfl (fun h6 => ?_) (fun h6 => ?_)
        · replace h6 : a.toInt < 0 := h6
          refine s_ek_bk 1 (P := 30) (ls' := [(0, .ref 151), (1, .int a), (2, .int b)]) (st' := [.int (-1)]) (M' := s_M0) rfl ?_
          refine s_ek_ret (o := some (.int (-1))) (fun _ => rfl) ?_
          exact rfl
        · replace h6 : ¬ (a.toInt < 0) := h6
          replace h6 : 0 ≤ a.toInt := by omega
          omega
      · replace h5 : ¬ (a.toInt < 0) := h5
        replace h5 : 0 ≤ a.toInt := by omega
        omega
    rcases Int.lt_or_le 1 b.toInt with h4 | h4
    · show s_Ek (s_rows 3 L xs) 1299 s_e153.1 0 [(0, .ref 0), (1, .int a), (2, .int b)] [] s_M0 _
      refine s_ek_bk 1 (P := 1) (ls' := [(0, .ref 0), (1, .int a), (2, .int b)]) (st' := [.int a]) (M' := s_M0) rfl ?_
      refine s_ek_if1 (T := 31) rfl rfl (fun h5 => ?_) (fun h5 => ?_)
      · replace h5 : a.toInt < 0 := h5
        refine s_ek_bk 1 (P := 32) (ls' := [(0, .ref 0), (1, .int a), (2, .int b)]) (st' := [.int (-1)]) (M' := s_M0) rfl ?_
        refine s_ek_ret (o := some (.int (-1))) (fun _ => rfl) ?_
        refine ⟨(-1), rfl, ?_⟩
        show s_Ek (s_rows 3 L xs) 1299 s_e257.1 0 [(0, .ref 151), (1, .int a), (2, .int b)] [] s_M0 _
        refine s_ek_bk 1 (P := 1) (ls' := [(0, .ref 151), (1, .int a), (2, .int b)]) (st' := [.int a]) (M' := s_M0) rfl ?_
        refine s_ek_if1 (T := 29) rfl rfl (fun h6 => ?_) (fun h6 => ?_)
        · replace h6 : a.toInt < 0 := h6
          refine s_ek_bk 1 (P := 30) (ls' := [(0, .ref 151), (1, .int a), (2, .int b)]) (st' := [.int (-1)]) (M' := s_M0) rfl ?_
          refine s_ek_ret (o := some (.int (-1))) (fun _ => rfl) ?_
          exact rfl
        · replace h6 : ¬ (a.toInt < 0) := h6
          replace h6 : 0 ≤ a.toInt := by omega
          omega
      · replace h5 : ¬ (a.toInt < 0) := h5
        replace h5 : 0 ≤ a.toInt := by omega
        omega
    rcases s_rg_0_1 h3 h4 with rfl | rfl
    · show s_Ek (s_rows 3 L xs) 1299 s_e153.1 0 [(0, .ref 0), (1, .int a), (2, .int 0)] [] s_M0 _
      refine s_ek_bk 1 (P := 1) (ls' := [(0, .ref 0), (1, .int a), (2, .int 0)]) (st' := [.int a]) (M' := s_M0) rfl ?_
      refine s_ek_if1 (T := 31) rfl rfl (fun h5 => ?_) (fun h5 => ?_)
      · replace h5 : a.toInt < 0 := h5
        refine s_ek_bk 1 (P := 32) (ls' := [(0, .ref 0), (1, .int a), (2, .int 0)]) (st' := [.int (-1)]) (M' := s_M0) rfl ?_
        refine s_ek_ret (o := some (.int (-1))) (fun _ => rfl) ?_
        refine ⟨(-1), rfl, ?_⟩
        show s_Ek (s_rows 3 L xs) 1299 s_e257.1 0 [(0, .ref 151), (1, .int a), (2, .int 0)] [] s_M0 _
        refine s_ek_bk 1 (P := 1) (ls' := [(0, .ref 151), (1, .int a), (2, .int 0)]) (st' := [.int a]) (M' := s_M0) rfl ?_
        refine s_ek_if1 (T := 29) rfl rfl (fun h6 => ?_) (fun h6 => ?_)
        · replace h6 : a.toInt < 0 := h6
          refine s_ek_bk 1 (P := 30) (ls' := [(0, .ref 151), (1, .int a), (2, .int 0)]) (st' := [.int (-1)]) (M' := s_M0) rfl ?_
          refine s_ek_ret (o := some (.int (-1))) (fun _ => rfl) ?_
          exact rfl
        · replace h6 : ¬ (a.toInt < 0) := h6
          replace h6 : 0 ≤ a.toInt := by omega
          omega
      · replace h5 : ¬ (a.toInt < 0) := h5
        replace h5 : 0 ≤ a.toInt := by omega
        omega
    · show s_Ek (s_rows 3 L xs) 1299 s_e153.1 0 [(0, .ref 0), (1, .int a), (2, .int 1)] [] s_M0 _
      refine s_ek_bk 1 (P := 1) (ls' := [(0, .ref 0), (1, .int a), (2, .int 1)]) (st' := [.int a]) (M' := s_M0) rfl ?_
      refine s_ek_if1 (T := 31) rfl rfl (fun h5 => ?_) (fun h5 => ?_)
      · replace h5 : a.toInt < 0 := h5
        refine s_ek_bk 1 (P := 32) (ls' := [(0, .ref 0), (1, .int a), (2, .int 1)]) (st' := [.int (-1)]) (M' := s_M0) rfl ?_
        refine s_ek_ret (o := some (.int (-1))) (fun _ => rfl) ?_
        refine ⟨(-1), rfl, ?_⟩
        show s_Ek (s_rows 3 L xs) 1299 s_e257.1 0 [(0, .ref 151), (1, .int a), (2, .int 1)] [] s_M0 _
        refine s_ek_bk 1 (P := 1) (ls' := [(0, .ref 151), (1, .int a), (2, .int 1)]) (st' := [.int a]) (M' := s_M0) rfl ?_
        refine s_ek_if1 (T := 29) rfl rfl (fun h6 => ?_) (fun h6 => ?_)
        · replace h6 : a.toInt < 0 := h6
          refine s_ek_bk 1 (P := 30) (ls' := [(0, .ref 151), (1, .int a), (2, .int 1)]) (st' := [.int (-1)]) (M' := s_M0) rfl ?_
          refine s_ek_ret (o := some (.int (-1))) (fun _ => rfl) ?_
          exact rfl
        · replace h6 : ¬ (a.toInt < 0) := h6
          replace h6 : 0 ≤ a.toInt := by omega
          omega
      · replace h5 : ¬ (a.toInt < 0) := h5
        replace h5 : 0 ≤ a.toInt := by omega
        omega
  rcases Int.lt_or_le 33 a.toInt with h2 | h2
  · rcases Int.lt_or_le b.toInt 0 with h3 | h3
    · show s_Ek (s_rows 3 L xs) 1299 s_e153.1 0 [(0, .ref 0), (1, .int a), (2, .int b)] [] s_M0 _
      refine s_ek_bk 1 (P := 1) (ls' := [(0, .ref 0), (1, .int a), (2, .int b)]) (st' := [.int a]) (M' := s_M0) rfl ?_
      refine s_ek_if1 (T := 31) rfl rfl (fun h5 => ?_) (fun h5 => ?_)
      · replace h5 : a.toInt < 0 := h5
        omega
      · replace h5 : ¬ (a.toInt < 0) := h5
        replace h5 : 0 ≤ a.toInt := by omega
        refine s_ek_bk 3 (P := 8) (ls' := [(0, .ref 0), (1, .int a), (2, .int b)]) (st' := [.int (a / 10)]) (M' := s_M0) rfl ?_
        refine s_ek_call (ν := s_e173.1) (P := 11) (as := [.int (a / 10)]) (r := []) (fun _ => rfl) rfl ?_
        show s_Ek (s_rows 3 L xs) 1298 s_e173.1 0 [(0, .int (a / 10))] [] s_M0 _
        refine s_ek_bk 1 (P := 1) (ls' := [(0, .int (a / 10))]) (st' := [.int (a / 10)]) (M' := s_M0) rfl ?_
        refine s_ek_if1 (T := 13) rfl rfl (fun h6 => ?_) (fun h6 => ?_)
        · replace h6 : (a / 10).toInt < 0 := h6
          refine s_ek_bk 1 (P := 14) (ls' := [(0, .int (a / 10))]) (st' := [.int 0]) (M' := s_M0) rfl ?_
          refine s_ek_ret (o := some (.int 0)) (fun _ => rfl) ?_
          show s_Ek (s_rows 3 L xs) 1299 s_e153.1 11 [(0, .ref 0), (1, .int a), (2, .int b)] [.int 0] s_M0 _
          refine s_ek_bk 2 (P := 32) (ls' := [(0, .ref 0), (1, .int a), (2, .int b)]) (st' := [.int (-1)]) (M' := s_M0) rfl ?_
          refine s_ek_ret (o := some (.int (-1))) (fun _ => rfl) ?_
          refine ⟨(-1), rfl, ?_⟩
          show s_Ek (s_rows 3 L xs) 1299 s_e257.1 0 [(0, .ref 151), (1, .int a), (2, .int b)] [] s_M0 _
          refine s_ek_bk 1 (P := 1) (ls' := [(0, .ref 151), (1, .int a), (2, .int b)]) (st' := [.int a]) (M' := s_M0) rfl ?_
          refine s_ek_if1 (T := 29) rfl rfl (fun h7 => ?_) (fun h7 => ?_)
          · replace h7 : a.toInt < 0 := h7
            omega
          · replace h7 : ¬ (a.toInt < 0) := h7
            replace h7 : 0 ≤ a.toInt := by omega
            refine s_ek_bk 4 (P := 9) (ls' := [(0, .ref 151), (1, .int a), (2, .int b)]) (st' := [.int 3, .int (a / 10)]) (M' := s_M0) rfl ?_
            refine s_ek_if2 (T := 29) rfl rfl (fun h8 => ?_) (fun h8 => ?_)
            · replace h8 : 3 < (a / 10).toInt := h8
              omega
            · replace h8 : ¬ (3 < (a / 10).toInt) := h8
              replace h8 : (a / 10).toInt ≤ 3 := by omega
              refine s_ek_bk 4 (P := 17) (ls' := [(0, .ref 151), (1, .int a), (2, .int b)]) (st' := [.int 3, .int (a - a / 10 * 10)]) (M' := s_M0) rfl ?_
              refine s_ek_if2 (T := 29) rfl rfl (fun h9 => ?_) (fun h9 => ?_)
              · replace h9 : 3 < (a - a / 10 * 10).toInt := h9
                refine s_ek_bk 1 (P := 30) (ls' := [(0, .ref 151), (1, .int a), (2, .int b)]) (st' := [.int (-1)]) (M' := s_M0) rfl ?_
                refine s_ek_ret (o := some (.int (-1))) (fun _ => rfl) ?_
                exact rfl
              · replace h9 : ¬ (3 < (a - a / 10 * 10).toInt) := h9
                replace h9 : (a - a / 10 * 10).toInt ≤ 3 := by omega
                exact absurd (show (a - a / 10 * 10).toInt < 4 by omega) (s_ul (by omega) (by omega))
        · replace h6 : ¬ ((a / 10).toInt < 0) := h6
          replace h6 : 0 ≤ (a / 10).toInt := by omega
          refine s_ek_bk 2 (P := 6) (ls' := [(0, .int (a / 10))]) (st' := [.int 4, .int (a / 10)]) (M' := s_M0) rfl ?_
          refine s_ek_if2 (T := 13) rfl rfl (fun h7 => ?_) (fun h7 => ?_)
          · replace h7 : 4 ≤ (a / 10).toInt := h7
            refine s_ek_bk 1 (P := 14) (ls' := [(0, .int (a / 10))]) (st' := [.int 0]) (M' := s_M0) rfl ?_
            refine s_ek_ret (o := some (.int 0)) (fun _ => rfl) ?_
            show s_Ek (s_rows 3 L xs) 1299 s_e153.1 11 [(0, .ref 0), (1, .int a), (2, .int b)] [.int 0] s_M0 _
            refine s_ek_bk 2 (P := 32) (ls' := [(0, .ref 0), (1, .int a), (2, .int b)]) (st' := [.int (-1)]) (M' := s_M0) rfl ?_
            refine s_ek_ret (o := some (.int (-1))) (fun _ => rfl) ?_
            refine ⟨(-1), rfl, ?_⟩
            show s_Ek (s_rows 3 L xs) 1299 s_e257.1 0 [(0, .ref 151), (1, .int a), (2, .int b)] [] s_M0 _
            refine s_ek_bk 1 (P := 1) (ls' := [(0, .ref 151), (1, .int a), (2, .int b)]) (st' := [.int a]) (M' := s_M0) rfl ?_
            refine s_ek_if1 (T := 29) rfl rfl (fun h8 => ?_) (fun h8 => ?_)
            · replace h8 : a.toInt < 0 := h8
              omega
            · replace h8 : ¬ (a.toInt < 0) := h8
              replace h8 : 0 ≤ a.toInt := by omega
              refine s_ek_bk 4 (P := 9) (ls' := [(0, .ref 151), (1, .int a), (2, .int b)]) (st' := [.int 3, .int (a / 10)]) (M' := s_M0) rfl ?_
              refine s_ek_if2 (T := 29) rfl rfl (fun h9 => ?_) (fun h9 => ?_)
              · replace h9 : 3 < (a / 10).toInt := h9
                refine s_ek_bk 1 (P := 30) (ls' := [(0, .ref 151), (1, .int a), (2, .int b)]) (st' := [.int (-1)]) (M' := s_M0) rfl ?_
                refine s_ek_ret (o := some (.int (-1))) (fun _ => rfl) ?_
                exact rfl
              · replace h9 : ¬ (3 < (a / 10).toInt) := h9
                replace h9 : (a / 10).toInt ≤ 3 := by omega
                omega
          · replace h7 : ¬ (4 ≤ (a / 10).toInt) := h7
            replace h7 : (a / 10).toInt < 4 := by omega
            refine s_ek_bk 2 (P := 14) (ls' := [(0, .int (a / 10))]) (st' := [.int 1]) (M' := s_M0) rfl ?_
            refine s_ek_ret (o := some (.int 1)) (fun _ => rfl) ?_
            show s_Ek (s_rows 3 L xs) 1299 s_e153.1 11 [(0, .ref 0), (1, .int a), (2, .int b)] [.int 1] s_M0 _
            refine s_ek_bk 4 (P := 18) (ls' := [(0, .ref 0), (1, .int a), (2, .int b)]) (st' := [.int (a - a / 10 * 10)]) (M' := s_M0) rfl ?_
            refine s_ek_call (ν := s_e173.1) (P := 21) (as := [.int (a - a / 10 * 10)]) (r := []) (fun _ => rfl) rfl ?_
            show s_Ek (s_rows 3 L xs) 1298 s_e173.1 0 [(0, .int (a - a / 10 * 10))] [] s_M0 _
            refine s_ek_bk 1 (P := 1) (ls' := [(0, .int (a - a / 10 * 10))]) (st' := [.int (a - a / 10 * 10)]) (M' := s_M0) rfl ?_
            refine s_ek_if1 (T := 13) rfl rfl (fun h8 => ?_) (fun h8 => ?_)
            · replace h8 : (a - a / 10 * 10).toInt < 0 := h8
              exact absurd (show (a - a / 10 * 10).toInt < 4 by omega) (s_ul (by omega) (by omega))
            · replace h8 : ¬ ((a - a / 10 * 10).toInt < 0) := h8
              replace h8 : 0 ≤ (a - a / 10 * 10).toInt := by omega
              refine s_ek_bk 2 (P := 6) (ls' := [(0, .int (a - a / 10 * 10))]) (st' := [.int 4, .int (a - a / 10 * 10)]) (M' := s_M0) rfl ?_
              refine s_ek_if2 (T := 13) rfl rfl (fun h9 => ?_) (fun h9 => ?_)
              · replace h9 : 4 ≤ (a - a / 10 * 10).toInt := h9
                refine s_ek_bk 1 (P := 14) (ls' := [(0, .int (a - a / 10 * 10))]) (st' := [.int 0]) (M' := s_M0) rfl ?_
                refine s_ek_ret (o := some (.int 0)) (fun _ => rfl) ?_
                show s_Ek (s_rows 3 L xs) 1299 s_e153.1 21 [(0, .ref 0), (1, .int a), (2, .int b)] [.int 0] s_M0 _
                refine s_ek_bk 2 (P := 32) (ls' := [(0, .ref 0), (1, .int a), (2, .int b)]) (st' := [.int (-1)]) (M' := s_M0) rfl ?_
                refine s_ek_ret (o := some (.int (-1))) (fun _ => rfl) ?_
                refine ⟨(-1), rfl, ?_⟩
                show s_Ek (s_rows 3 L xs) 1299 s_e257.1 0 [(0, .ref 151), (1, .int a), (2, .int b)] [] s_M0 _
                refine s_ek_bk 1 (P := 1) (ls' := [(0, .ref 151), (1, .int a), (2, .int b)]) (st' := [.int a]) (M' := s_M0) rfl ?_
                refine s_ek_if1 (T := 29) rfl rfl (fun h10 => ?_) (fun h10 => ?_)
                · replace h10 : a.toInt < 0 := h10
                  omega
                · replace h10 : ¬ (a.toInt < 0) := h10
                  replace h10 : 0 ≤ a.toInt := by omega
                  refine s_ek_bk 4 (P := 9) (ls' := [(0, .ref 151), (1, .int a), (2, .int b)]) (st' := [.int 3, .int (a / 10)]) (M' := s_M0) rfl ?_
                  refine s_ek_if2 (T := 29) rfl rfl (fun h11 => ?_) (fun h11 => ?_)
                  · replace h11 : 3 < (a / 10).toInt := h11
                    omega
                  · replace h11 : ¬ (3 < (a / 10).toInt) := h11
                    replace h11 : (a / 10).toInt ≤ 3 := by omega
                    refine s_ek_bk 4 (P := 17) (ls' := [(0, .ref 151), (1, .int a), (2, .int b)]) (st' := [.int 3, .int (a - a / 10 * 10)]) (M' := s_M0) rfl ?_
                    refine s_ek_if2 (T := 29) rfl rfl (fun h12 => ?_) (fun h12 => ?_)
                    · replace h12 : 3 < (a - a / 10 * 10).toInt := h12
                      refine s_ek_bk 1 (P := 30) (ls' := [(0, .ref 151), (1, .int a), (2, .int b)]) (st' := [.int (-1)]) (M' := s_M0) rfl ?_
                      refine s_ek_ret (o := some (.int (-1))) (fun _ => rfl) ?_
                      exact rfl
                    · replace h12 : ¬ (3 < (a - a / 10 * 10).toInt) := h12
                      replace h12 : (a - a / 10 * 10).toInt ≤ 3 := by omega
                      omega
              · replace h9 : ¬ (4 ≤ (a - a / 10 * 10).toInt) := h9
                replace h9 : (a - a / 10 * 10).toInt < 4 := by omega
                exact absurd (show (a - a / 10 * 10).toInt < 4 by omega) (s_ul (by omega) (by omega))
    rcases Int.lt_or_le 1 b.toInt with h4 | h4
    · show s_Ek (s_rows 3 L xs) 1299 s_e153.1 0 [(0, .ref 0), (1, .int a), (2, .int b)] [] s_M0 _
      refine s_ek_bk 1 (P := 1) (ls' := [(0, .ref 0), (1, .int a), (2, .int b)]) (st' := [.int a]) (M' := s_M0) rfl ?_
      refine s_ek_if1 (T := 31) rfl rfl (fun h5 => ?_) (fun h5 => ?_)
      · replace h5 : a.toInt < 0 := h5
        omega
      · replace h5 : ¬ (a.toInt < 0) := h5
        replace h5 : 0 ≤ a.toInt := by omega
        refine s_ek_bk 3 (P := 8) (ls' := [(0, .ref 0), (1, .int a), (2, .int b)]) (st' := [.int (a / 10)]) (M' := s_M0) rfl ?_
        refine s_ek_call (ν := s_e173.1) (P := 11) (as := [.int (a / 10)]) (r := []) (fun _ => rfl) rfl ?_
        show s_Ek (s_rows 3 L xs) 1298 s_e173.1 0 [(0, .int (a / 10))] [] s_M0 _
        refine s_ek_bk 1 (P := 1) (ls' := [(0, .int (a / 10))]) (st' := [.int (a / 10)]) (M' := s_M0) rfl ?_
        refine s_ek_if1 (T := 13) rfl rfl (fun h6 => ?_) (fun h6 => ?_)
        · replace h6 : (a / 10).toInt < 0 := h6
          refine s_ek_bk 1 (P := 14) (ls' := [(0, .int (a / 10))]) (st' := [.int 0]) (M' := s_M0) rfl ?_
          refine s_ek_ret (o := some (.int 0)) (fun _ => rfl) ?_
          show s_Ek (s_rows 3 L xs) 1299 s_e153.1 11 [(0, .ref 0), (1, .int a), (2, .int b)] [.int 0] s_M0 _
          refine s_ek_bk 2 (P := 32) (ls' := [(0, .ref 0), (1, .int a), (2, .int b)]) (st' := [.int (-1)]) (M' := s_M0) rfl ?_
          refine s_ek_ret (o := some (.int (-1))) (fun _ => rfl) ?_
          refine ⟨(-1), rfl, ?_⟩
          show s_Ek (s_rows 3 L xs) 1299 s_e257.1 0 [(0, .ref 151), (1, .int a), (2, .int b)] [] s_M0 _
          refine s_ek_bk 1 (P := 1) (ls' := [(0, .ref 151), (1, .int a), (2, .int b)]) (st' := [.int a]) (M' := s_M0) rfl ?_
          refine s_ek_if1 (T := 29) rfl rfl (fun h7 => ?_) (fun h7 => ?_)
          · replace h7 : a.toInt < 0 := h7
            omega
          · replace h7 : ¬ (a.toInt < 0) := h7
            replace h7 : 0 ≤ a.toInt := by omega
            refine s_ek_bk 4 (P := 9) (ls' := [(0, .ref 151), (1, .int a), (2, .int b)]) (st' := [.int 3, .int (a / 10)]) (M' := s_M0) rfl ?_
            refine s_ek_if2 (T := 29) rfl rfl (fun h8 => ?_) (fun h8 => ?_)
            · replace h8 : 3 < (a / 10).toInt := h8
              omega
            · replace h8 : ¬ (3 < (a / 10).toInt) := h8
              replace h8 : (a / 10).toInt ≤ 3 := by omega
              refine s_ek_bk 4 (P := 17) (ls' := [(0, .ref 151), (1, .int a), (2, .int b)]) (st' := [.int 3, .int (a - a / 10 * 10)]) (M' := s_M0) rfl ?_
              refine s_ek_if2 (T := 29) rfl rfl (fun h9 => ?_) (fun h9 => ?_)
              · replace h9 : 3 < (a - a / 10 * 10).toInt := h9
                refine s_ek_bk 1 (P := 30) (ls' := [(0, .ref 151), (1, .int a), (2, .int b)]) (st' := [.int (-1)]) (M' := s_M0) rfl ?_
                refine s_ek_ret (o := some (.int (-1))) (fun _ => rfl) ?_
                exact rfl
              · replace h9 : ¬ (3 < (a - a / 10 * 10).toInt) := h9
                replace h9 : (a - a / 10 * 10).toInt ≤ 3 := by omega
                exact absurd (show (a - a / 10 * 10).toInt < 4 by omega) (s_ul (by omega) (by omega))
        · replace h6 : ¬ ((a / 10).toInt < 0) := h6
          replace h6 : 0 ≤ (a / 10).toInt := by omega
          refine s_ek_bk 2 (P := 6) (ls' := [(0, .int (a / 10))]) (st' := [.int 4, .int (a / 10)]) (M' := s_M0) rfl ?_
          refine s_ek_if2 (T := 13) rfl rfl (fun h7 => ?_) (fun h7 => ?_)
          · replace h7 : 4 ≤ (a / 10).toInt := h7
            refine s_ek_bk 1 (P := 14) (ls' := [(0, .int (a / 10))]) (st' := [.int 0]) (M' := s_M0) rfl ?_
            refine s_ek_ret (o := some (.int 0)) (fun _ => rfl) ?_
            show s_Ek (s_rows 3 L xs) 1299 s_e153.1 11 [(0, .ref 0), (1, .int a), (2, .int b)] [.int 0] s_M0 _
            refine s_ek_bk 2 (P := 32) (ls' := [(0, .ref 0), (1, .int a), (2, .int b)]) (st' := [.int (-1)]) (M' := s_M0) rfl ?_
            refine s_ek_ret (o := some (.int (-1))) (fun _ => rfl) ?_
            refine ⟨(-1), rfl, ?_⟩
            show s_Ek (s_rows 3 L xs) 1299 s_e257.1 0 [(0, .ref 151), (1, .int a), (2, .int b)] [] s_M0 _
            refine s_ek_bk 1 (P := 1) (ls' := [(0, .ref 151), (1, .int a), (2, .int b)]) (st' := [.int a]) (M' := s_M0) rfl ?_
            refine s_ek_if1 (T := 29) rfl rfl (fun h8 => ?_) (fun h8 => ?_)
            · replace h8 : a.toInt < 0 := h8
              omega
            · replace h8 : ¬ (a.toInt < 0) := h8
              replace h8 : 0 ≤ a.toInt := by omega
              refine s_ek_bk 4 (P := 9) (ls' := [(0, .ref 151), (1, .int a), (2, .int b)]) (st' := [.int 3, .int (a / 10)]) (M' := s_M0) rfl ?_
              refine s_ek_if2 (T := 29) rfl rfl (fun h9 => ?_) (fun h9 => ?_)
              · replace h9 : 3 < (a / 10).toInt := h9
                refine s_ek_bk 1 (P := 30) (ls' := [(0, .ref 151), (1, .int a), (2, .int b)]) (st' := [.int (-1)]) (M' := s_M0) rfl ?_
                refine s_ek_ret (o := some (.int (-1))) (fun _ => rfl) ?_
                exact rfl
              · replace h9 : ¬ (3 < (a / 10).toInt) := h9
                replace h9 : (a / 10).toInt ≤ 3 := by omega
                omega
          · replace h7 : ¬ (4 ≤ (a / 10).toInt) := h7
            replace h7 : (a / 10).toInt < 4 := by omega
            refine s_ek_bk 2 (P := 14) (ls' := [(0, .int (a / 10))]) (st' := [.int 1]) (M' := s_M0) rfl ?_
            refine s_ek_ret (o := some (.int 1)) (fun _ => rfl) ?_
            show s_Ek (s_rows 3 L xs) 1299 s_e153.1 11 [(0, .ref 0), (1, .int a), (2, .int b)] [.int 1] s_M0 _
            refine s_ek_bk 4 (P := 18) (ls' := [(0, .ref 0), (1, .int a), (2, .int b)]) (st' := [.int (a - a / 10 * 10)]) (M' := s_M0) rfl ?_
            refine s_ek_call (ν := s_e173.1) (P := 21) (as := [.int (a - a / 10 * 10)]) (r := []) (fun _ => rfl) rfl ?_
            show s_Ek (s_rows 3 L xs) 1298 s_e173.1 0 [(0, .int (a - a / 10 * 10))] [] s_M0 _
            refine s_ek_bk 1 (P := 1) (ls' := [(0, .int (a - a / 10 * 10))]) (st' := [.int (a - a / 10 * 10)]) (M' := s_M0) rfl ?_
            refine s_ek_if1 (T := 13) rfl rfl (fun h8 => ?_) (fun h8 => ?_)
            · replace h8 : (a - a / 10 * 10).toInt < 0 := h8
              exact absurd (show (a - a / 10 * 10).toInt < 4 by omega) (s_ul (by omega) (by omega))
            · replace h8 : ¬ ((a - a / 10 * 10).toInt < 0) := h8
              replace h8 : 0 ≤ (a - a / 10 * 10).toInt := by omega
              refine s_ek_bk 2 (P := 6) (ls' := [(0, .int (a - a / 10 * 10))]) (st' := [.int 4, .int (a - a / 10 * 10)]) (M' := s_M0) rfl ?_
              refine s_ek_if2 (T := 13) rfl rfl (fun h9 => ?_) (fun h9 => ?_)
              · replace h9 : 4 ≤ (a - a / 10 * 10).toInt := h9
                refine s_ek_bk 1 (P := 14) (ls' := [(0, .int (a - a / 10 * 10))]) (st' := [.int 0]) (M' := s_M0) rfl ?_
                refine s_ek_ret (o := some (.int 0)) (fun _ => rfl) ?_
                show s_Ek (s_rows 3 L xs) 1299 s_e153.1 21 [(0, .ref 0), (1, .int a), (2, .int b)] [.int 0] s_M0 _
                refine s_ek_bk 2 (P := 32) (ls' := [(0, .ref 0), (1, .int a), (2, .int b)]) (st' := [.int (-1)]) (M' := s_M0) rfl ?_
                refine s_ek_ret (o := some (.int (-1))) (fun _ => rfl) ?_
                refine ⟨(-1), rfl, ?_⟩
                show s_Ek (s_rows 3 L xs) 1299 s_e257.1 0 [(0, .ref 151), (1, .int a), (2, .int b)] [] s_M0 _
                refine s_ek_bk 1 (P := 1) (ls' := [(0, .ref 151), (1, .int a), (2, .int b)]) (st' := [.int a]) (M' := s_M0) rfl ?_
                refine s_ek_if1 (T := 29) rfl rfl (fun h10 => ?_) (fun h10 => ?_)
                · replace h10 : a.toInt < 0 := h10
                  omega
                · replace h10 : ¬ (a.toInt < 0) := h10
                  replace h10 : 0 ≤ a.toInt := by omega
                  refine s_ek_bk 4 (P := 9) (ls' := [(0, .ref 151), (1, .int a), (2, .int b)]) (st' := [.int 3, .int (a / 10)]) (M' := s_M0) rfl ?_
                  refine s_ek_if2 (T := 29) rfl rfl (fun h11 => ?_) (fun h11 => ?_)
                  · replace h11 : 3 < (a / 10).toInt := h11
                    omega
                  · replace h11 : ¬ (3 < (a / 10).toInt) := h11
                    replace h11 : (a / 10).toInt ≤ 3 := by omega
                    refine s_ek_bk 4 (P := 17) (ls' := [(0, .ref 151), (1, .int a), (2, .int b)]) (st' := [.int 3, .int (a - a / 10 * 10)]) (M' := s_M0) rfl ?_
                    refine s_ek_if2 (T := 29) rfl rfl (fun h12 => ?_) (fun h12 => ?_)
                    · replace h12 : 3 < (a - a / 10 * 10).toInt := h12
                      refine s_ek_bk 1 (P := 30) (ls' := [(0, .ref 151), (1, .int a), (2, .int b)]) (st' := [.int (-1)]) (M' := s_M0) rfl ?_
                      refine s_ek_ret (o := some (.int (-1))) (fun _ => rfl) ?_
                      exact rfl
                    · replace h12 : ¬ (3 < (a - a / 10 * 10).toInt) := h12
                      replace h12 : (a - a / 10 * 10).toInt ≤ 3 := by omega
                      omega
              · replace h9 : ¬ (4 ≤ (a - a / 10 * 10).toInt) := h9
                replace h9 : (a - a / 10 * 10).toInt < 4 := by omega
                exact absurd (show (a - a / 10 * 10).toInt < 4 by omega) (s_ul (by omega) (by omega))
    rcases s_rg_0_1 h3 h4 with rfl | rfl
    · show s_Ek (s_rows 3 L xs) 1299 s_e153.1 0 [(0, .ref 0), (1, .int a), (2, .int 0)] [] s_M0 _
      refine s_ek_bk 1 (P := 1) (ls' := [(0, .ref 0), (1, .int a), (2, .int 0)]) (st' := [.int a]) (M' := s_M0) rfl ?_
      refine s_ek_if1 (T := 31) rfl rfl (fun h5 => ?_) (fun h5 => ?_)
      · replace h5 : a.toInt < 0 := h5
        omega
      · replace h5 : ¬ (a.toInt < 0) := h5
        replace h5 : 0 ≤ a.toInt := by omega
        refine s_ek_bk 3 (P := 8) (ls' := [(0, .ref 0), (1, .int a), (2, .int 0)]) (st' := [.int (a / 10)]) (M' := s_M0) rfl ?_
        refine s_ek_call (ν := s_e173.1) (P := 11) (as := [.int (a / 10)]) (r := []) (fun _ => rfl) rfl ?_
        show s_Ek (s_rows 3 L xs) 1298 s_e173.1 0 [(0, .int (a / 10))] [] s_M0 _
        refine s_ek_bk 1 (P := 1) (ls' := [(0, .int (a / 10))]) (st' := [.int (a / 10)]) (M' := s_M0) rfl ?_
        refine s_ek_if1 (T := 13) rfl rfl (fun h6 => ?_) (fun h6 => ?_)
        · replace h6 : (a / 10).toInt < 0 := h6
          refine s_ek_bk 1 (P := 14) (ls' := [(0, .int (a / 10))]) (st' := [.int 0]) (M' := s_M0) rfl ?_
          refine s_ek_ret (o := some (.int 0)) (fun _ => rfl) ?_
          show s_Ek (s_rows 3 L xs) 1299 s_e153.1 11 [(0, .ref 0), (1, .int a), (2, .int 0)] [.int 0] s_M0 _
          refine s_ek_bk 2 (P := 32) (ls' := [(0, .ref 0), (1, .int a), (2, .int 0)]) (st' := [.int (-1)]) (M' := s_M0) rfl ?_
          refine s_ek_ret (o := some (.int (-1))) (fun _ => rfl) ?_
          refine ⟨(-1), rfl, ?_⟩
          show s_Ek (s_rows 3 L xs) 1299 s_e257.1 0 [(0, .ref 151), (1, .int a), (2, .int 0)] [] s_M0 _
          refine s_ek_bk 1 (P := 1) (ls' := [(0, .ref 151), (1, .int a), (2, .int 0)]) (st' := [.int a]) (M' := s_M0) rfl ?_
          refine s_ek_if1 (T := 29) rfl rfl (fun h7 => ?_) (fun h7 => ?_)
          · replace h7 : a.toInt < 0 := h7
            omega
          · replace h7 : ¬ (a.toInt < 0) := h7
            replace h7 : 0 ≤ a.toInt := by omega
            refine s_ek_bk 4 (P := 9) (ls' := [(0, .ref 151), (1, .int a), (2, .int 0)]) (st' := [.int 3, .int (a / 10)]) (M' := s_M0) rfl ?_
            refine s_ek_if2 (T := 29) rfl rfl (fun h8 => ?_) (fun h8 => ?_)
            · replace h8 : 3 < (a / 10).toInt := h8
              omega
            · replace h8 : ¬ (3 < (a / 10).toInt) := h8
              replace h8 : (a / 10).toInt ≤ 3 := by omega
              refine s_ek_bk 4 (P := 17) (ls' := [(0, .ref 151), (1, .int a), (2, .int 0)]) (st' := [.int 3, .int (a - a / 10 * 10)]) (M' := s_M0) rfl ?_
              refine s_ek_if2 (T := 29) rfl rfl (fun h9 => ?_) (fun h9 => ?_)
              · replace h9 : 3 < (a - a / 10 * 10).toInt := h9
                refine s_ek_bk 1 (P := 30) (ls' := [(0, .ref 151), (1, .int a), (2, .int 0)]) (st' := [.int (-1)]) (M' := s_M0) rfl ?_
                refine s_ek_ret (o := some (.int (-1))) (fun _ => rfl) ?_
                exact rfl
              · replace h9 : ¬ (3 < (a - a / 10 * 10).toInt) := h9
                replace h9 : (a - a / 10 * 10).toInt ≤ 3 := by omega
                exact absurd (show (a - a / 10 * 10).toInt < 4 by omega) (s_ul (by omega) (by omega))
        · replace h6 : ¬ ((a / 10).toInt < 0) := h6
          replace h6 : 0 ≤ (a / 10).toInt := by omega
          refine s_ek_bk 2 (P := 6) (ls' := [(0, .int (a / 10))]) (st' := [.int 4, .int (a / 10)]) (M' := s_M0) rfl ?_
          refine s_ek_if2 (T := 13) rfl rfl (fun h7 => ?_) (fun h7 => ?_)
          · replace h7 : 4 ≤ (a / 10).toInt := h7
            refine s_ek_bk 1 (P := 14) (ls' := [(0, .int (a / 10))]) (st' := [.int 0]) (M' := s_M0) rfl ?_
            refine s_ek_ret (o := some (.int 0)) (fun _ => rfl) ?_
            show s_Ek (s_rows 3 L xs) 1299 s_e153.1 11 [(0, .ref 0), (1, .int a), (2, .int 0)] [.int 0] s_M0 _
            refine s_ek_bk 2 (P := 32) (ls' := [(0, .ref 0), (1, .int a), (2, .int 0)]) (st' := [.int (-1)]) (M' := s_M0) rfl ?_
            refine s_ek_ret (o := some (.int (-1))) (fun _ => rfl) ?_
            refine ⟨(-1), rfl, ?_⟩
            show s_Ek (s_rows 3 L xs) 1299 s_e257.1 0 [(0, .ref 151), (1, .int a), (2, .int 0)] [] s_M0 _
            refine s_ek_bk 1 (P := 1) (ls' := [(0, .ref 151), (1, .int a), (2, .int 0)]) (st' := [.int a]) (M' := s_M0) rfl ?_
            refine s_ek_if1 (T := 29) rfl rfl (fun h8 => ?_) (fun h8 => ?_)
            · replace h8 : a.toInt < 0 := h8
              omega
            · replace h8 : ¬ (a.toInt < 0) := h8
              replace h8 : 0 ≤ a.toInt := by omega
              refine s_ek_bk 4 (P := 9) (ls' := [(0, .ref 151), (1, .int a), (2, .int 0)]) (st' := [.int 3, .int (a / 10)]) (M' := s_M0) rfl ?_
              refine s_ek_if2 (T := 29) rfl rfl (fun h9 => ?_) (fun h9 => ?_)
              · replace h9 : 3 < (a / 10).toInt := h9
                refine s_ek_bk 1 (P := 30) (ls' := [(0, .ref 151), (1, .int a), (2, .int 0)]) (st' := [.int (-1)]) (M' := s_M0) rfl ?_
                refine s_ek_ret (o := some (.int (-1))) (fun _ => rfl) ?_
                exact rfl
              · replace h9 : ¬ (3 < (a / 10).toInt) := h9
                replace h9 : (a / 10).toInt ≤ 3 := by omega
                omega
          · replace h7 : ¬ (4 ≤ (a / 10).toInt) := h7
            replace h7 : (a / 10).toInt < 4 := by omega
            refine s_ek_bk 2 (P := 14) (ls' := [(0, .int (a / 10))]) (st' := [.int 1]) (M' := s_M0) rfl ?_
            refine s_ek_ret (o := some (.int 1)) (fun _ => rfl) ?_
            show s_Ek (s_rows 3 L xs) 1299 s_e153.1 11 [(0, .ref 0), (1, .int a), (2, .int 0)] [.int 1] s_M0 _
            refine s_ek_bk 4 (P := 18) (ls' := [(0, .ref 0), (1, .int a), (2, .int 0)]) (st' := [.int (a - a / 10 * 10)]) (M' := s_M0) rfl ?_
            refine s_ek_call (ν := s_e173.1) (P := 21) (as := [.int (a - a / 10 * 10)]) (r := []) (fun _ => rfl) rfl ?_
            show s_Ek (s_rows 3 L xs) 1298 s_e173.1 0 [(0, .int (a - a / 10 * 10))] [] s_M0 _
            refine s_ek_bk 1 (P := 1) (ls' := [(0, .int (a - a / 10 * 10))]) (st' := [.int (a - a / 10 * 10)]) (M' := s_M0) rfl ?_
            refine s_ek_if1 (T := 13) rfl rfl (fun h8 => ?_) (fun h8 => ?_)
            · replace h8 : (a - a / 10 * 10).toInt < 0 := h8
              exact absurd (show (a - a / 10 * 10).toInt < 4 by omega) (s_ul (by omega) (by omega))
            · replace h8 : ¬ ((a - a / 10 * 10).toInt < 0) := h8
              replace h8 : 0 ≤ (a - a / 10 * 10).toInt := by omega
              refine s_ek_bk 2 (P := 6) (ls' := [(0, .int (a - a / 10 * 10))]) (st' := [.int 4, .int (a - a / 10 * 10)]) (M' := s_M0) rfl ?_
              refine s_ek_if2 (T := 13) rfl rfl (fun h9 => ?_) (fun h9 => ?_)
              · replace h9 : 4 ≤ (a - a / 10 * 10).toInt := h9
                refine s_ek_bk 1 (P := 14) (ls' := [(0, .int (a - a / 10 * 10))]) (st' := [.int 0]) (M' := s_M0) rfl ?_
                refine s_ek_ret (o := some (.int 0)) (fun _ => rfl) ?_
                show s_Ek (s_rows 3 L xs) 1299 s_e153.1 21 [(0, .ref 0), (1, .int a), (2, .int 0)] [.int 0] s_M0 _
                refine s_ek_bk 2 (P := 32) (ls' := [(0, .ref 0), (1, .int a), (2, .int 0)]) (st' := [.int (-1)]) (M' := s_M0) rfl ?_
                refine s_ek_ret (o := some (.int (-1))) (fun _ => rfl) ?_
                refine ⟨(-1), rfl, ?_⟩
                show s_Ek (s_rows 3 L xs) 1299 s_e257.1 0 [(0, .ref 151), (1, .int a), (2, .int 0)] [] s_M0 _
                refine s_ek_bk 1 (P := 1) (ls' := [(0, .ref 151), (1, .int a), (2, .int 0)]) (st' := [.int a]) (M' := s_M0) rfl ?_
                refine s_ek_if1 (T := 29) rfl rfl (fun h10 => ?_) (fun h10 => ?_)
                · replace h10 : a.toInt < 0 := h10
                  omega
                · replace h10 : ¬ (a.toInt < 0) := h10
                  replace h10 : 0 ≤ a.toInt := by omega
                  refine s_ek_bk 4 (P := 9) (ls' := [(0, .ref 151), (1, .int a), (2, .int 0)]) (st' := [.int 3, .int (a / 10)]) (M' := s_M0) rfl ?_
                  refine s_ek_if2 (T := 29) rfl rfl (fun h11 => ?_) (fun h11 => ?_)
                  · replace h11 : 3 < (a / 10).toInt := h11
                    omega
                  · replace h11 : ¬ (3 < (a / 10).toInt) := h11
                    replace h11 : (a / 10).toInt ≤ 3 := by omega
                    refine s_ek_bk 4 (P := 17) (ls' := [(0, .ref 151), (1, .int a), (2, .int 0)]) (st' := [.int 3, .int (a - a / 10 * 10)]) (M' := s_M0) rfl ?_
                    refine s_ek_if2 (T := 29) rfl rfl (fun h12 => ?_) (fun h12 => ?_)
                    · replace h12 : 3 < (a - a / 10 * 10).toInt := h12
                      refine s_ek_bk 1 (P := 30) (ls' := [(0, .ref 151), (1, .int a), (2, .int 0)]) (st' := [.int (-1)]) (M' := s_M0) rfl ?_
                      refine s_ek_ret (o := some (.int (-1))) (fun _ => rfl) ?_
                      exact rfl
                    · replace h12 : ¬ (3 < (a - a / 10 * 10).toInt) := h12
                      replace h12 : (a - a / 10 * 10).toInt ≤ 3 := by omega
                      omega
              · replace h9 : ¬ (4 ≤ (a - a / 10 * 10).toInt) := h9
                replace h9 : (a - a / 10 * 10).toInt < 4 := by omega
                exact absurd (show (a - a / 10 * 10).toInt < 4 by omega) (s_ul (by omega) (by omega))
    · show s_Ek (s_rows 3 L xs) 1299 s_e153.1 0 [(0, .ref 0), (1, .int a), (2, .int 1)] [] s_M0 _
      refine s_ek_bk 1 (P := 1) (ls' := [(0, .ref 0), (1, .int a), (2, .int 1)]) (st' := [.int a]) (M' := s_M0) rfl ?_
      refine s_ek_if1 (T := 31) rfl rfl (fun h5 => ?_) (fun h5 => ?_)
      · replace h5 : a.toInt < 0 := h5
        omega
      · replace h5 : ¬ (a.toInt < 0) := h5
        replace h5 : 0 ≤ a.toInt := by omega
        refine s_ek_bk 3 (P := 8) (ls' := [(0, .ref 0), (1, .int a), (2, .int 1)]) (st' := [.int (a / 10)]) (M' := s_M0) rfl ?_
        refine s_ek_call (ν := s_e173.1) (P := 11) (as := [.int (a / 10)]) (r := []) (fun _ => rfl) rfl ?_
        show s_Ek (s_rows 3 L xs) 1298 s_e173.1 0 [(0, .int (a / 10))] [] s_M0 _
        refine s_ek_bk 1 (P := 1) (ls' := [(0, .int (a / 10))]) (st' := [.int (a / 10)]) (M' := s_M0) rfl ?_
        refine s_ek_if1 (T := 13) rfl rfl (fun h6 => ?_) (fun h6 => ?_)
        · replace h6 : (a / 10).toInt < 0 := h6
          refine s_ek_bk 1 (P := 14) (ls' := [(0, .int (a / 10))]) (st' := [.int 0]) (M' := s_M0) rfl ?_
          refine s_ek_ret (o := some (.int 0)) (fun _ => rfl) ?_
          show s_Ek (s_rows 3 L xs) 1299 s_e153.1 11 [(0, .ref 0), (1, .int a), (2, .int 1)] [.int 0] s_M0 _
          refine s_ek_bk 2 (P := 32) (ls' := [(0, .ref 0), (1, .int a), (2, .int 1)]) (st' := [.int (-1)]) (M' := s_M0) rfl ?_
          refine s_ek_ret (o := some (.int (-1))) (fun _ => rfl) ?_
          refine ⟨(-1), rfl, ?_⟩
          show s_Ek (s_rows 3 L xs) 1299 s_e257.1 0 [(0, .ref 151), (1, .int a), (2, .int 1)] [] s_M0 _
          refine s_ek_bk 1 (P := 1) (ls' := [(0, .ref 151), (1, .int a), (2, .int 1)]) (st' := [.int a]) (M' := s_M0) rfl ?_
          refine s_ek_if1 (T := 29) rfl rfl (fun h7 => ?_) (fun h7 => ?_)
          · replace h7 : a.toInt < 0 := h7
            omega
          · replace h7 : ¬ (a.toInt < 0) := h7
            replace h7 : 0 ≤ a.toInt := by omega
            refine s_ek_bk 4 (P := 9) (ls' := [(0, .ref 151), (1, .int a), (2, .int 1)]) (st' := [.int 3, .int (a / 10)]) (M' := s_M0) rfl ?_
            refine s_ek_if2 (T := 29) rfl rfl (fun h8 => ?_) (fun h8 => ?_)
            · replace h8 : 3 < (a / 10).toInt := h8
              omega
            · replace h8 : ¬ (3 < (a / 10).toInt) := h8
              replace h8 : (a / 10).toInt ≤ 3 := by omega
              refine s_ek_bk 4 (P := 17) (ls' := [(0, .ref 151), (1, .int a), (2, .int 1)]) (st' := [.int 3, .int (a - a / 10 * 10)]) (M' := s_M0) rfl ?_
              refine s_ek_if2 (T := 29) rfl rfl (fun h9 => ?_) (fun h9 => ?_)
              · replace h9 : 3 < (a - a / 10 * 10).toInt := h9
                refine s_ek_bk 1 (P := 30) (ls' := [(0, .ref 151), (1, .int a), (2, .int 1)]) (st' := [.int (-1)]) (M' := s_M0) rfl ?_
                refine s_ek_ret (o := some (.int (-1))) (fun _ => rfl) ?_
                exact rfl
              · replace h9 : ¬ (3 < (a - a / 10 * 10).toInt) := h9
                replace h9 : (a - a / 10 * 10).toInt ≤ 3 := by omega
                exact absurd (show (a - a / 10 * 10).toInt < 4 by omega) (s_ul (by omega) (by omega))
        · replace h6 : ¬ ((a / 10).toInt < 0) := h6
          replace h6 : 0 ≤ (a / 10).toInt := by omega
          refine s_ek_bk 2 (P := 6) (ls' := [(0, .int (a / 10))]) (st' := [.int 4, .int (a / 10)]) (M' := s_M0) rfl ?_
          refine s_ek_if2 (T := 13) rfl rfl (fun h7 => ?_) (fun h7 => ?_)
          · replace h7 : 4 ≤ (a / 10).toInt := h7
            refine s_ek_bk 1 (P := 14) (ls' := [(0, .int (a / 10))]) (st' := [.int 0]) (M' := s_M0) rfl ?_
            refine s_ek_ret (o := some (.int 0)) (fun _ => rfl) ?_
            show s_Ek (s_rows 3 L xs) 1299 s_e153.1 11 [(0, .ref 0), (1, .int a), (2, .int 1)] [.int 0] s_M0 _
            refine s_ek_bk 2 (P := 32) (ls' := [(0, .ref 0), (1, .int a), (2, .int 1)]) (st' := [.int (-1)]) (M' := s_M0) rfl ?_
            refine s_ek_ret (o := some (.int (-1))) (fun _ => rfl) ?_
            refine ⟨(-1), rfl, ?_⟩
            show s_Ek (s_rows 3 L xs) 1299 s_e257.1 0 [(0, .ref 151), (1, .int a), (2, .int 1)] [] s_M0 _
            refine s_ek_bk 1 (P := 1) (ls' := [(0, .ref 151), (1, .int a), (2, .int 1)]) (st' := [.int a]) (M' := s_M0) rfl ?_
            refine s_ek_if1 (T := 29) rfl rfl (fun h8 => ?_) (fun h8 => ?_)
            · replace h8 : a.toInt < 0 := h8
              omega
            · replace h8 : ¬ (a.toInt < 0) := h8
              replace h8 : 0 ≤ a.toInt := by omega
              refine s_ek_bk 4 (P := 9) (ls' := [(0, .ref 151), (1, .int a), (2, .int 1)]) (st' := [.int 3, .int (a / 10)]) (M' := s_M0) rfl ?_
              refine s_ek_if2 (T := 29) rfl rfl (fun h9 => ?_) (fun h9 => ?_)
              · replace h9 : 3 < (a / 10).toInt := h9
                refine s_ek_bk 1 (P := 30) (ls' := [(0, .ref 151), (1, .int a), (2, .int 1)]) (st' := [.int (-1)]) (M' := s_M0) rfl ?_
                refine s_ek_ret (o := some (.int (-1))) (fun _ => rfl) ?_
                exact rfl
              · replace h9 : ¬ (3 < (a / 10).toInt) := h9
                replace h9 : (a / 10).toInt ≤ 3 := by omega
                omega
          · replace h7 : ¬ (4 ≤ (a / 10).toInt) := h7
            replace h7 : (a / 10).toInt < 4 := by omega
            refine s_ek_bk 2 (P := 14) (ls' := [(0, .int (a / 10))]) (st' := [.int 1]) (M' := s_M0) rfl ?_
            refine s_ek_ret (o := some (.int 1)) (fun _ => rfl) ?_
            show s_Ek (s_rows 3 L xs) 1299 s_e153.1 11 [(0, .ref 0), (1, .int a), (2, .int 1)] [.int 1] s_M0 _
            refine s_ek_bk 4 (P := 18) (ls' := [(0, .ref 0), (1, .int a), (2, .int 1)]) (st' := [.int (a - a / 10 * 10)]) (M' := s_M0) rfl ?_
            refine s_ek_call (ν := s_e173.1) (P := 21) (as := [.int (a - a / 10 * 10)]) (r := []) (fun _ => rfl) rfl ?_
            show s_Ek (s_rows 3 L xs) 1298 s_e173.1 0 [(0, .int (a - a / 10 * 10))] [] s_M0 _
            refine s_ek_bk 1 (P := 1) (ls' := [(0, .int (a - a / 10 * 10))]) (st' := [.int (a - a / 10 * 10)]) (M' := s_M0) rfl ?_
            refine s_ek_if1 (T := 13) rfl rfl (fun h8 => ?_) (fun h8 => ?_)
            · replace h8 : (a - a / 10 * 10).toInt < 0 := h8
              exact absurd (show (a - a / 10 * 10).toInt < 4 by omega) (s_ul (by omega) (by omega))
            · replace h8 : ¬ ((a - a / 10 * 10).toInt < 0) := h8
              replace h8 : 0 ≤ (a - a / 10 * 10).toInt := by omega
              refine s_ek_bk 2 (P := 6) (ls' := [(0, .int (a - a / 10 * 10))]) (st' := [.int 4, .int (a - a / 10 * 10)]) (M' := s_M0) rfl ?_
              refine s_ek_if2 (T := 13) rfl rfl (fun h9 => ?_) (fun h9 => ?_)
              · replace h9 : 4 ≤ (a - a / 10 * 10).toInt := h9
                refine s_ek_bk 1 (P := 14) (ls' := [(0, .int (a - a / 10 * 10))]) (st' := [.int 0]) (M' := s_M0) rfl ?_
                refine s_ek_ret (o := some (.int 0)) (fun _ => rfl) ?_
                show s_Ek (s_rows 3 L xs) 1299 s_e153.1 21 [(0, .ref 0), (1, .int a), (2, .int 1)] [.int 0] s_M0 _
                refine s_ek_bk 2 (P := 32) (ls' := [(0, .ref 0), (1, .int a), (2, .int 1)]) (st' := [.int (-1)]) (M' := s_M0) rfl ?_
                refine s_ek_ret (o := some (.int (-1))) (fun _ => rfl) ?_
                refine ⟨(-1), rfl, ?_⟩
                show s_Ek (s_rows 3 L xs) 1299 s_e257.1 0 [(0, .ref 151), (1, .int a), (2, .int 1)] [] s_M0 _
                refine s_ek_bk 1 (P := 1) (ls' := [(0, .ref 151), (1, .int a), (2, .int 1)]) (st' := [.int a]) (M' := s_M0) rfl ?_
                refine s_ek_if1 (T := 29) rfl rfl (fun h10 => ?_) (fun h10 => ?_)
                · replace h10 : a.toInt < 0 := h10
                  omega
                · replace h10 : ¬ (a.toInt < 0) := h10
                  replace h10 : 0 ≤ a.toInt := by omega
                  refine s_ek_bk 4 (P := 9) (ls' := [(0, .ref 151), (1, .int a), (2, .int 1)]) (st' := [.int 3, .int (a / 10)]) (M' := s_M0) rfl ?_
                  refine s_ek_if2 (T := 29) rfl rfl (fun h11 => ?_) (fun h11 => ?_)
                  · replace h11 : 3 < (a / 10).toInt := h11
                    omega
                  · replace h11 : ¬ (3 < (a / 10).toInt) := h11
                    replace h11 : (a / 10).toInt ≤ 3 := by omega
                    refine s_ek_bk 4 (P := 17) (ls' := [(0, .ref 151), (1, .int a), (2, .int 1)]) (st' := [.int 3, .int (a - a / 10 * 10)]) (M' := s_M0) rfl ?_
                    refine s_ek_if2 (T := 29) rfl rfl (fun h12 => ?_) (fun h12 => ?_)
                    · replace h12 : 3 < (a - a / 10 * 10).toInt := h12
                      refine s_ek_bk 1 (P := 30) (ls' := [(0, .ref 151), (1, .int a), (2, .int 1)]) (st' := [.int (-1)]) (M' := s_M0) rfl ?_
                      refine s_ek_ret (o := some (.int (-1))) (fun _ => rfl) ?_
                      exact rfl
                    · replace h12 : ¬ (3 < (a - a / 10 * 10).toInt) := h12
                      replace h12 : (a - a / 10 * 10).toInt ≤ 3 := by omega
                      omega
              · replace h9 : ¬ (4 ≤ (a - a / 10 * 10).toInt) := h9
                replace h9 : (a - a / 10 * 10).toInt < 4 := by omega
                exact absurd (show (a - a / 10 * 10).toInt < 4 by omega) (s_ul (by omega) (by omega))
  rcases s_rg_0_33 h1 h2 with rfl | rfl | rfl | rfl | rfl | rfl | rfl | rfl | rfl | rfl | rfl | rfl | rfl | rfl | rfl | rfl | rfl | rfl | rfl | rfl | rfl | rfl | rfl | rfl | rfl | rfl | rfl | rfl | rfl | rfl | rfl | rfl | rfl | rfl
  · rcases Int.lt_or_le b.toInt 0 with h3 | h3
    · show s_Ek (s_rows 3 L xs) 1299 s_e153.1 0 [(0, .ref 0), (1, .int 0), (2, .int b)] [] s_M0 _
      refine s_ek_bk 5 (P := 8) (ls' := [(0, .ref 0), (1, .int 0), (2, .int b)]) (st' := [.int 0]) (M' := s_M0) rfl ?_
      refine s_ek_call (ν := s_e173.1) (P := 11) (as := [.int 0]) (r := []) (fun _ => rfl) rfl ?_
      show s_Ek (s_rows 3 L xs) 1298 s_e173.1 0 [(0, .int 0)] [] s_M0 _
      refine s_ek_bk 7 (P := 14) (ls' := [(0, .int 0)]) (st' := [.int 1]) (M' := s_M0) rfl ?_
      refine s_ek_ret (o := some (.int 1)) (fun _ => rfl) ?_
      show s_Ek (s_rows 3 L xs) 1299 s_e153.1 11 [(0, .ref 0), (1, .int 0), (2, .int b)] [.int 1] s_M0 _
      refine s_ek_bk 4 (P := 18) (ls' := [(0, .ref 0), (1, .int 0), (2, .int b)]) (st' := [.int 0]) (M' := s_M0) rfl ?_
      refine s_ek_call (ν := s_e173.1) (P := 21) (as := [.int 0]) (r := []) (fun _ => rfl) rfl ?_
      show s_Ek (s_rows 3 L xs) 1298 s_e173.1 0 [(0, .int 0)] [] s_M0 _
      refine s_ek_bk 7 (P := 14) (ls' := [(0, .int 0)]) (st' := [.int 1]) (M' := s_M0) rfl ?_
      refine s_ek_ret (o := some (.int 1)) (fun _ => rfl) ?_
      show s_Ek (s_rows 3 L xs) 1299 s_e153.1 21 [(0, .ref 0), (1, .int 0), (2, .int b)] [.int 1] s_M0 _
      refine s_ek_bk 2 (P := 25) (ls' := [(0, .ref 0), (1, .int 0), (2, .int b)]) (st' := [.int b]) (M' := s_M0) rfl ?_
      refine s_ek_call (ν := s_e174.1) (P := 28) (as := [.int b]) (r := []) (fun _ => rfl) rfl ?_
      show s_Ek (s_rows 3 L xs) 1298 s_e174.1 0 [(0, .int b)] [] s_M0 _
      refine s_ek_bk 1 (P := 1) (ls' := [(0, .int b)]) (st' := [.int b]) (M' := s_M0) rfl ?_
      refine s_ek_if1 (T := 9) rfl rfl (fun h5 => ?_) (fun h5 => ?_)
      · replace h5 : b.toInt = 0 := h5
        omega
      · replace h5 : ¬ (b.toInt = 0) := h5
        replace h5 : ¬ b.toInt = 0 := by omega
        refine s_ek_bk 2 (P := 6) (ls' := [(0, .int b)]) (st' := [.int 1, .int b]) (M' := s_M0) rfl ?_
        refine s_ek_if2 (T := 13) rfl rfl (fun h6 => ?_) (fun h6 => ?_)
        · replace h6 : ¬ b.toInt = 1 := h6
          refine s_ek_bk 1 (P := 14) (ls' := [(0, .int b)]) (st' := [.int 0]) (M' := s_M0) rfl ?_
          refine s_ek_ret (o := some (.int 0)) (fun _ => rfl) ?_
          show s_Ek (s_rows 3 L xs) 1299 s_e153.1 28 [(0, .ref 0), (1, .int 0), (2, .int b)] [.int 0] s_M0 _
          refine s_ek_bk 2 (P := 32) (ls' := [(0, .ref 0), (1, .int 0), (2, .int b)]) (st' := [.int (-1)]) (M' := s_M0) rfl ?_
          refine s_ek_ret (o := some (.int (-1))) (fun _ => rfl) ?_
          refine ⟨(-1), rfl, ?_⟩
          show s_Ek (s_rows 3 L xs) 1299 s_e257.1 0 [(0, .ref 151), (1, .int 0), (2, .int b)] [] s_M0 _
          refine s_ek_bk 15 (P := 23) (ls' := [(0, .ref 151), (1, .int 0), (2, .int b)]) (st' := [.int 1, .int 0, .int b]) (M' := s_M0) rfl ?_
          refine s_ek_call (ν := s_e181.1) (P := 26) (as := [.int b, .int 0, .int 1]) (r := []) (fun _ => rfl) rfl ?_
          show s_Ek (s_rows 3 L xs) 1298 s_e181.1 0 [(0, .int b), (1, .int 0), (2, .int 1)] [] s_M0 _
          refine s_ek_bk 2 (P := 2) (ls' := [(0, .int b), (1, .int 0), (2, .int 1)]) (st' := [.int 0, .int b]) (M' := s_M0) rfl ?_
          refine s_ek_if2 (T := 14) rfl rfl (fun h7 => ?_) (fun h7 => ?_)
          · replace h7 : b.toInt < 0 := h7
            refine s_ek_bk 1 (P := 15) (ls' := [(0, .int b), (1, .int 0), (2, .int 1)]) (st' := [.int 0]) (M' := s_M0) rfl ?_
            refine s_ek_ret (o := some (.int 0)) (fun _ => rfl) ?_
            show s_Ek (s_rows 3 L xs) 1299 s_e257.1 26 [(0, .ref 151), (1, .int 0), (2, .int b)] [.int 0] s_M0 _
            refine s_ek_bk 2 (P := 30) (ls' := [(0, .ref 151), (1, .int 0), (2, .int b)]) (st' := [.int (-1)]) (M' := s_M0) rfl ?_
            refine s_ek_ret (o := some (.int (-1))) (fun _ => rfl) ?_
            exact rfl
          · replace h7 : ¬ (b.toInt < 0) := h7
            replace h7 : 0 ≤ b.toInt := by omega
            omega
        · replace h6 : ¬ (¬ b.toInt = 1) := h6
          replace h6 : b.toInt = 1 := by omega
          omega
    rcases Int.lt_or_le 1 b.toInt with h4 | h4
    · show s_Ek (s_rows 3 L xs) 1299 s_e153.1 0 [(0, .ref 0), (1, .int 0), (2, .int b)] [] s_M0 _
      refine s_ek_bk 5 (P := 8) (ls' := [(0, .ref 0), (1, .int 0), (2, .int b)]) (st' := [.int 0]) (M' := s_M0) rfl ?_
      refine s_ek_call (ν := s_e173.1) (P := 11) (as := [.int 0]) (r := []) (fun _ => rfl) rfl ?_
      show s_Ek (s_rows 3 L xs) 1298 s_e173.1 0 [(0, .int 0)] [] s_M0 _
      refine s_ek_bk 7 (P := 14) (ls' := [(0, .int 0)]) (st' := [.int 1]) (M' := s_M0) rfl ?_
      refine s_ek_ret (o := some (.int 1)) (fun _ => rfl) ?_
      show s_Ek (s_rows 3 L xs) 1299 s_e153.1 11 [(0, .ref 0), (1, .int 0), (2, .int b)] [.int 1] s_M0 _
      refine s_ek_bk 4 (P := 18) (ls' := [(0, .ref 0), (1, .int 0), (2, .int b)]) (st' := [.int 0]) (M' := s_M0) rfl ?_
      refine s_ek_call (ν := s_e173.1) (P := 21) (as := [.int 0]) (r := []) (fun _ => rfl) rfl ?_
      show s_Ek (s_rows 3 L xs) 1298 s_e173.1 0 [(0, .int 0)] [] s_M0 _
      refine s_ek_bk 7 (P := 14) (ls' := [(0, .int 0)]) (st' := [.int 1]) (M' := s_M0) rfl ?_
      refine s_ek_ret (o := some (.int 1)) (fun _ => rfl) ?_
      show s_Ek (s_rows 3 L xs) 1299 s_e153.1 21 [(0, .ref 0), (1, .int 0), (2, .int b)] [.int 1] s_M0 _
      refine s_ek_bk 2 (P := 25) (ls' := [(0, .ref 0), (1, .int 0), (2, .int b)]) (st' := [.int b]) (M' := s_M0) rfl ?_
      refine s_ek_call (ν := s_e174.1) (P := 28) (as := [.int b]) (r := []) (fun _ => rfl) rfl ?_
      show s_Ek (s_rows 3 L xs) 1298 s_e174.1 0 [(0, .int b)] [] s_M0 _
      refine s_ek_bk 1 (P := 1) (ls' := [(0, .int b)]) (st' := [.int b]) (M' := s_M0) rfl ?_
      refine s_ek_if1 (T := 9) rfl rfl (fun h5 => ?_) (fun h5 => ?_)
      · replace h5 : b.toInt = 0 := h5
        omega
      · replace h5 : ¬ (b.toInt = 0) := h5
        replace h5 : ¬ b.toInt = 0 := by omega
        refine s_ek_bk 2 (P := 6) (ls' := [(0, .int b)]) (st' := [.int 1, .int b]) (M' := s_M0) rfl ?_
        refine s_ek_if2 (T := 13) rfl rfl (fun h6 => ?_) (fun h6 => ?_)
        · replace h6 : ¬ b.toInt = 1 := h6
          refine s_ek_bk 1 (P := 14) (ls' := [(0, .int b)]) (st' := [.int 0]) (M' := s_M0) rfl ?_
          refine s_ek_ret (o := some (.int 0)) (fun _ => rfl) ?_
          show s_Ek (s_rows 3 L xs) 1299 s_e153.1 28 [(0, .ref 0), (1, .int 0), (2, .int b)] [.int 0] s_M0 _
          refine s_ek_bk 2 (P := 32) (ls' := [(0, .ref 0), (1, .int 0), (2, .int b)]) (st' := [.int (-1)]) (M' := s_M0) rfl ?_
          refine s_ek_ret (o := some (.int (-1))) (fun _ => rfl) ?_
          refine ⟨(-1), rfl, ?_⟩
          show s_Ek (s_rows 3 L xs) 1299 s_e257.1 0 [(0, .ref 151), (1, .int 0), (2, .int b)] [] s_M0 _
          refine s_ek_bk 15 (P := 23) (ls' := [(0, .ref 151), (1, .int 0), (2, .int b)]) (st' := [.int 1, .int 0, .int b]) (M' := s_M0) rfl ?_
          refine s_ek_call (ν := s_e181.1) (P := 26) (as := [.int b, .int 0, .int 1]) (r := []) (fun _ => rfl) rfl ?_
          show s_Ek (s_rows 3 L xs) 1298 s_e181.1 0 [(0, .int b), (1, .int 0), (2, .int 1)] [] s_M0 _
          refine s_ek_bk 2 (P := 2) (ls' := [(0, .int b), (1, .int 0), (2, .int 1)]) (st' := [.int 0, .int b]) (M' := s_M0) rfl ?_
          refine s_ek_if2 (T := 14) rfl rfl (fun h7 => ?_) (fun h7 => ?_)
          · replace h7 : b.toInt < 0 := h7
            omega
          · replace h7 : ¬ (b.toInt < 0) := h7
            replace h7 : 0 ≤ b.toInt := by omega
            refine s_ek_bk 2 (P := 7) (ls' := [(0, .int b), (1, .int 0), (2, .int 1)]) (st' := [.int 1, .int b]) (M' := s_M0) rfl ?_
            refine s_ek_if2 (T := 14) rfl rfl (fun h8 => ?_) (fun h8 => ?_)
            · replace h8 : 1 < b.toInt := h8
              refine s_ek_bk 1 (P := 15) (ls' := [(0, .int b), (1, .int 0), (2, .int 1)]) (st' := [.int 0]) (M' := s_M0) rfl ?_
              refine s_ek_ret (o := some (.int 0)) (fun _ => rfl) ?_
              show s_Ek (s_rows 3 L xs) 1299 s_e257.1 26 [(0, .ref 151), (1, .int 0), (2, .int b)] [.int 0] s_M0 _
              refine s_ek_bk 2 (P := 30) (ls' := [(0, .ref 151), (1, .int 0), (2, .int b)]) (st' := [.int (-1)]) (M' := s_M0) rfl ?_
              refine s_ek_ret (o := some (.int (-1))) (fun _ => rfl) ?_
              exact rfl
            · replace h8 : ¬ (1 < b.toInt) := h8
              replace h8 : b.toInt ≤ 1 := by omega
              omega
        · replace h6 : ¬ (¬ b.toInt = 1) := h6
          replace h6 : b.toInt = 1 := by omega
          omega
    rcases s_rg_0_1 h3 h4 with rfl | rfl
    · exact s_ek_run s_El_rows s_clj_0 ⟨0, rfl, s_ek_run s_El_rows s_clj_1 rfl⟩
    · exact s_ek_run s_El_rows s_clj_2 ⟨(-2), rfl, s_ek_run s_El_rows s_clj_3 rfl⟩
  · rcases Int.lt_or_le b.toInt 0 with h3 | h3
    · show s_Ek (s_rows 3 L xs) 1299 s_e153.1 0 [(0, .ref 0), (1, .int 1), (2, .int b)] [] s_M0 _
      refine s_ek_bk 5 (P := 8) (ls' := [(0, .ref 0), (1, .int 1), (2, .int b)]) (st' := [.int 0]) (M' := s_M0) rfl ?_
      refine s_ek_call (ν := s_e173.1) (P := 11) (as := [.int 0]) (r := []) (fun _ => rfl) rfl ?_
      show s_Ek (s_rows 3 L xs) 1298 s_e173.1 0 [(0, .int 0)] [] s_M0 _
      refine s_ek_bk 7 (P := 14) (ls' := [(0, .int 0)]) (st' := [.int 1]) (M' := s_M0) rfl ?_
      refine s_ek_ret (o := some (.int 1)) (fun _ => rfl) ?_
      show s_Ek (s_rows 3 L xs) 1299 s_e153.1 11 [(0, .ref 0), (1, .int 1), (2, .int b)] [.int 1] s_M0 _
      refine s_ek_bk 4 (P := 18) (ls' := [(0, .ref 0), (1, .int 1), (2, .int b)]) (st' := [.int 1]) (M' := s_M0) rfl ?_
      refine s_ek_call (ν := s_e173.1) (P := 21) (as := [.int 1]) (r := []) (fun _ => rfl) rfl ?_
      show s_Ek (s_rows 3 L xs) 1298 s_e173.1 0 [(0, .int 1)] [] s_M0 _
      refine s_ek_bk 7 (P := 14) (ls' := [(0, .int 1)]) (st' := [.int 1]) (M' := s_M0) rfl ?_
      refine s_ek_ret (o := some (.int 1)) (fun _ => rfl) ?_
      show s_Ek (s_rows 3 L xs) 1299 s_e153.1 21 [(0, .ref 0), (1, .int 1), (2, .int b)] [.int 1] s_M0 _
      refine s_ek_bk 2 (P := 25) (ls' := [(0, .ref 0), (1, .int 1), (2, .int b)]) (st' := [.int b]) (M' := s_M0) rfl ?_
      refine s_ek_call (ν := s_e174.1) (P := 28) (as := [.int b]) (r := []) (fun _ => rfl) rfl ?_
      show s_Ek (s_rows 3 L xs) 1298 s_e174.1 0 [(0, .int b)] [] s_M0 _
      refine s_ek_bk 1 (P := 1) (ls' := [(0, .int b)]) (st' := [.int b]) (M' := s_M0) rfl ?_
      refine s_ek_if1 (T := 9) rfl rfl (fun h5 => ?_) (fun h5 => ?_)
      · replace h5 : b.toInt = 0 := h5
        omega
      · replace h5 : ¬ (b.toInt = 0) := h5
        replace h5 : ¬ b.toInt = 0 := by omega
        refine s_ek_bk 2 (P := 6) (ls' := [(0, .int b)]) (st' := [.int 1, .int b]) (M' := s_M0) rfl ?_
        refine s_ek_if2 (T := 13) rfl rfl (fun h6 => ?_) (fun h6 => ?_)
        · replace h6 : ¬ b.toInt = 1 := h6
          refine s_ek_bk 1 (P := 14) (ls' := [(0, .int b)]) (st' := [.int 0]) (M' := s_M0) rfl ?_
          refine s_ek_ret (o := some (.int 0)) (fun _ => rfl) ?_
          show s_Ek (s_rows 3 L xs) 1299 s_e153.1 28 [(0, .ref 0), (1, .int 1), (2, .int b)] [.int 0] s_M0 _
          refine s_ek_bk 2 (P := 32) (ls' := [(0, .ref 0), (1, .int 1), (2, .int b)]) (st' := [.int (-1)]) (M' := s_M0) rfl ?_
          refine s_ek_ret (o := some (.int (-1))) (fun _ => rfl) ?_
          refine ⟨(-1), rfl, ?_⟩
          show s_Ek (s_rows 3 L xs) 1299 s_e257.1 0 [(0, .ref 151), (1, .int 1), (2, .int b)] [] s_M0 _
          refine s_ek_bk 15 (P := 23) (ls' := [(0, .ref 151), (1, .int 1), (2, .int b)]) (st' := [.int 1, .int 0, .int b]) (M' := s_M0) rfl ?_
          refine s_ek_call (ν := s_e181.1) (P := 26) (as := [.int b, .int 0, .int 1]) (r := []) (fun _ => rfl) rfl ?_
          show s_Ek (s_rows 3 L xs) 1298 s_e181.1 0 [(0, .int b), (1, .int 0), (2, .int 1)] [] s_M0 _
          refine s_ek_bk 2 (P := 2) (ls' := [(0, .int b), (1, .int 0), (2, .int 1)]) (st' := [.int 0, .int b]) (M' := s_M0) rfl ?_
          refine s_ek_if2 (T := 14) rfl rfl (fun h7 => ?_) (fun h7 => ?_)
          · replace h7 : b.toInt < 0 := h7
            refine s_ek_bk 1 (P := 15) (ls' := [(0, .int b), (1, .int 0), (2, .int 1)]) (st' := [.int 0]) (M' := s_M0) rfl ?_
            refine s_ek_ret (o := some (.int 0)) (fun _ => rfl) ?_
            show s_Ek (s_rows 3 L xs) 1299 s_e257.1 26 [(0, .ref 151), (1, .int 1), (2, .int b)] [.int 0] s_M0 _
            refine s_ek_bk 2 (P := 30) (ls' := [(0, .ref 151), (1, .int 1), (2, .int b)]) (st' := [.int (-1)]) (M' := s_M0) rfl ?_
            refine s_ek_ret (o := some (.int (-1))) (fun _ => rfl) ?_
            exact rfl
          · replace h7 : ¬ (b.toInt < 0) := h7
            replace h7 : 0 ≤ b.toInt := by omega
            omega
        · replace h6 : ¬ (¬ b.toInt = 1) := h6
          replace h6 : b.toInt = 1 := by omega
          omega
    rcases Int.lt_or_le 1 b.toInt with h4 | h4
    · show s_Ek (s_rows 3 L xs) 1299 s_e153.1 0 [(0, .ref 0), (1, .int 1), (2, .int b)] [] s_M0 _
      refine s_ek_bk 5 (P := 8) (ls' := [(0, .ref 0), (1, .int 1), (2, .int b)]) (st' := [.int 0]) (M' := s_M0) rfl ?_
      refine s_ek_call (ν := s_e173.1) (P := 11) (as := [.int 0]) (r := []) (fun _ => rfl) rfl ?_
      show s_Ek (s_rows 3 L xs) 1298 s_e173.1 0 [(0, .int 0)] [] s_M0 _
      refine s_ek_bk 7 (P := 14) (ls' := [(0, .int 0)]) (st' := [.int 1]) (M' := s_M0) rfl ?_
      refine s_ek_ret (o := some (.int 1)) (fun _ => rfl) ?_
      show s_Ek (s_rows 3 L xs) 1299 s_e153.1 11 [(0, .ref 0), (1, .int 1), (2, .int b)] [.int 1] s_M0 _
      refine s_ek_bk 4 (P := 18) (ls' := [(0, .ref 0), (1, .int 1), (2, .int b)]) (st' := [.int 1]) (M' := s_M0) rfl ?_
      refine s_ek_call (ν := s_e173.1) (P := 21) (as := [.int 1]) (r := []) (fun _ => rfl) rfl ?_
      show s_Ek (s_rows 3 L xs) 1298 s_e173.1 0 [(0, .int 1)] [] s_M0 _
      refine s_ek_bk 7 (P := 14) (ls' := [(0, .int 1)]) (st' := [.int 1]) (M' := s_M0) rfl ?_
      refine s_ek_ret (o := some (.int 1)) (fun _ => rfl) ?_
      show s_Ek (s_rows 3 L xs) 1299 s_e153.1 21 [(0, .ref 0), (1, .int 1), (2, .int b)] [.int 1] s_M0 _
      refine s_ek_bk 2 (P := 25) (ls' := [(0, .ref 0), (1, .int 1), (2, .int b)]) (st' := [.int b]) (M' := s_M0) rfl ?_
      refine s_ek_call (ν := s_e174.1) (P := 28) (as := [.int b]) (r := []) (fun _ => rfl) rfl ?_
      show s_Ek (s_rows 3 L xs) 1298 s_e174.1 0 [(0, .int b)] [] s_M0 _
      refine s_ek_bk 1 (P := 1) (ls' := [(0, .int b)]) (st' := [.int b]) (M' := s_M0) rfl ?_
      refine s_ek_if1 (T := 9) rfl rfl (fun h5 => ?_) (fun h5 => ?_)
      · replace h5 : b.toInt = 0 := h5
        omega
      · replace h5 : ¬ (b.toInt = 0) := h5
        replace h5 : ¬ b.toInt = 0 := by omega
        refine s_ek_bk 2 (P := 6) (ls' := [(0, .int b)]) (st' := [.int 1, .int b]) (M' := s_M0) rfl ?_
        refine s_ek_if2 (T := 13) rfl rfl (fun h6 => ?_) (fun h6 => ?_)
        · replace h6 : ¬ b.toInt = 1 := h6
          refine s_ek_bk 1 (P := 14) (ls' := [(0, .int b)]) (st' := [.int 0]) (M' := s_M0) rfl ?_
          refine s_ek_ret (o := some (.int 0)) (fun _ => rfl) ?_
          show s_Ek (s_rows 3 L xs) 1299 s_e153.1 28 [(0, .ref 0), (1, .int 1), (2, .int b)] [.int 0] s_M0 _
          refine s_ek_bk 2 (P := 32) (ls' := [(0, .ref 0), (1, .int 1), (2, .int b)]) (st' := [.int (-1)]) (M' := s_M0) rfl ?_
          refine s_ek_ret (o := some (.int (-1))) (fun _ => rfl) ?_
          refine ⟨(-1), rfl, ?_⟩
          show s_Ek (s_rows 3 L xs) 1299 s_e257.1 0 [(0, .ref 151), (1, .int 1), (2, .int b)] [] s_M0 _
          refine s_ek_bk 15 (P := 23) (ls' := [(0, .ref 151), (1, .int 1), (2, .int b)]) (st' := [.int 1, .int 0, .int b]) (M' := s_M0) rfl ?_
          refine s_ek_call (ν := s_e181.1) (P := 26) (as := [.int b, .int 0, .int 1]) (r := []) (fun _ => rfl) rfl ?_
          show s_Ek (s_rows 3 L xs) 1298 s_e181.1 0 [(0, .int b), (1, .int 0), (2, .int 1)] [] s_M0 _
          refine s_ek_bk 2 (P := 2) (ls' := [(0, .int b), (1, .int 0), (2, .int 1)]) (st' := [.int 0, .int b]) (M' := s_M0) rfl ?_
          refine s_ek_if2 (T := 14) rfl rfl (fun h7 => ?_) (fun h7 => ?_)
          · replace h7 : b.toInt < 0 := h7
            omega
          · replace h7 : ¬ (b.toInt < 0) := h7
            replace h7 : 0 ≤ b.toInt := by omega
            refine s_ek_bk 2 (P := 7) (ls' := [(0, .int b), (1, .int 0), (2, .int 1)]) (st' := [.int 1, .int b]) (M' := s_M0) rfl ?_
            refine s_ek_if2 (T := 14) rfl rfl (fun h8 => ?_) (fun h8 => ?_)
            · replace h8 : 1 < b.toInt := h8
              refine s_ek_bk 1 (P := 15) (ls' := [(0, .int b), (1, .int 0), (2, .int 1)]) (st' := [.int 0]) (M' := s_M0) rfl ?_
              refine s_ek_ret (o := some (.int 0)) (fun _ => rfl) ?_
              show s_Ek (s_rows 3 L xs) 1299 s_e257.1 26 [(0, .ref 151), (1, .int 1), (2, .int b)] [.int 0] s_M0 _
              refine s_ek_bk 2 (P := 30) (ls' := [(0, .ref 151), (1, .int 1), (2, .int b)]) (st' := [.int (-1)]) (M' := s_M0) rfl ?_
              refine s_ek_ret (o := some (.int (-1))) (fun _ => rfl) ?_
              exact rfl
            · replace h8 : ¬ (1 < b.toInt) := h8
              replace h8 : b.toInt ≤ 1 := by omega
              omega
        · replace h6 : ¬ (¬ b.toInt = 1) := h6
          replace h6 : b.toInt = 1 := by omega
          omega
    rcases s_rg_0_1 h3 h4 with rfl | rfl
    · exact s_ek_run s_El_rows s_clj_4 ⟨0, rfl, s_ek_run s_El_rows s_clj_5 rfl⟩
    · exact s_ek_run s_El_rows s_clj_6 ⟨(-2), rfl, s_ek_run s_El_rows s_clj_7 rfl⟩
  · rcases Int.lt_or_le b.toInt 0 with h3 | h3
    · show s_Ek (s_rows 3 L xs) 1299 s_e153.1 0 [(0, .ref 0), (1, .int 2), (2, .int b)] [] s_M0 _
      refine s_ek_bk 5 (P := 8) (ls' := [(0, .ref 0), (1, .int 2), (2, .int b)]) (st' := [.int 0]) (M' := s_M0) rfl ?_
      refine s_ek_call (ν := s_e173.1) (P := 11) (as := [.int 0]) (r := []) (fun _ => rfl) rfl ?_
      show s_Ek (s_rows 3 L xs) 1298 s_e173.1 0 [(0, .int 0)] [] s_M0 _
      refine s_ek_bk 7 (P := 14) (ls' := [(0, .int 0)]) (st' := [.int 1]) (M' := s_M0) rfl ?_
      refine s_ek_ret (o := some (.int 1)) (fun _ => rfl) ?_
      show s_Ek (s_rows 3 L xs) 1299 s_e153.1 11 [(0, .ref 0), (1, .int 2), (2, .int b)] [.int 1] s_M0 _
      refine s_ek_bk 4 (P := 18) (ls' := [(0, .ref 0), (1, .int 2), (2, .int b)]) (st' := [.int 2]) (M' := s_M0) rfl ?_
      refine s_ek_call (ν := s_e173.1) (P := 21) (as := [.int 2]) (r := []) (fun _ => rfl) rfl ?_
      show s_Ek (s_rows 3 L xs) 1298 s_e173.1 0 [(0, .int 2)] [] s_M0 _
      refine s_ek_bk 7 (P := 14) (ls' := [(0, .int 2)]) (st' := [.int 1]) (M' := s_M0) rfl ?_
      refine s_ek_ret (o := some (.int 1)) (fun _ => rfl) ?_
      show s_Ek (s_rows 3 L xs) 1299 s_e153.1 21 [(0, .ref 0), (1, .int 2), (2, .int b)] [.int 1] s_M0 _
      refine s_ek_bk 2 (P := 25) (ls' := [(0, .ref 0), (1, .int 2), (2, .int b)]) (st' := [.int b]) (M' := s_M0) rfl ?_
      refine s_ek_call (ν := s_e174.1) (P := 28) (as := [.int b]) (r := []) (fun _ => rfl) rfl ?_
      show s_Ek (s_rows 3 L xs) 1298 s_e174.1 0 [(0, .int b)] [] s_M0 _
      refine s_ek_bk 1 (P := 1) (ls' := [(0, .int b)]) (st' := [.int b]) (M' := s_M0) rfl ?_
      refine s_ek_if1 (T := 9) rfl rfl (fun h5 => ?_) (fun h5 => ?_)
      · replace h5 : b.toInt = 0 := h5
        omega
      · replace h5 : ¬ (b.toInt = 0) := h5
        replace h5 : ¬ b.toInt = 0 := by omega
        refine s_ek_bk 2 (P := 6) (ls' := [(0, .int b)]) (st' := [.int 1, .int b]) (M' := s_M0) rfl ?_
        refine s_ek_if2 (T := 13) rfl rfl (fun h6 => ?_) (fun h6 => ?_)
        · replace h6 : ¬ b.toInt = 1 := h6
          refine s_ek_bk 1 (P := 14) (ls' := [(0, .int b)]) (st' := [.int 0]) (M' := s_M0) rfl ?_
          refine s_ek_ret (o := some (.int 0)) (fun _ => rfl) ?_
          show s_Ek (s_rows 3 L xs) 1299 s_e153.1 28 [(0, .ref 0), (1, .int 2), (2, .int b)] [.int 0] s_M0 _
          refine s_ek_bk 2 (P := 32) (ls' := [(0, .ref 0), (1, .int 2), (2, .int b)]) (st' := [.int (-1)]) (M' := s_M0) rfl ?_
          refine s_ek_ret (o := some (.int (-1))) (fun _ => rfl) ?_
          refine ⟨(-1), rfl, ?_⟩
          show s_Ek (s_rows 3 L xs) 1299 s_e257.1 0 [(0, .ref 151), (1, .int 2), (2, .int b)] [] s_M0 _
          refine s_ek_bk 15 (P := 23) (ls' := [(0, .ref 151), (1, .int 2), (2, .int b)]) (st' := [.int 1, .int 0, .int b]) (M' := s_M0) rfl ?_
          refine s_ek_call (ν := s_e181.1) (P := 26) (as := [.int b, .int 0, .int 1]) (r := []) (fun _ => rfl) rfl ?_
          show s_Ek (s_rows 3 L xs) 1298 s_e181.1 0 [(0, .int b), (1, .int 0), (2, .int 1)] [] s_M0 _
          refine s_ek_bk 2 (P := 2) (ls' := [(0, .int b), (1, .int 0), (2, .int 1)]) (st' := [.int 0, .int b]) (M' := s_M0) rfl ?_
          refine s_ek_if2 (T := 14) rfl rfl (fun h7 => ?_) (fun h7 => ?_)
          · replace h7 : b.toInt < 0 := h7
            refine s_ek_bk 1 (P := 15) (ls' := [(0, .int b), (1, .int 0), (2, .int 1)]) (st' := [.int 0]) (M' := s_M0) rfl ?_
            refine s_ek_ret (o := some (.int 0)) (fun _ => rfl) ?_
            show s_Ek (s_rows 3 L xs) 1299 s_e257.1 26 [(0, .ref 151), (1, .int 2), (2, .int b)] [.int 0] s_M0 _
            refine s_ek_bk 2 (P := 30) (ls' := [(0, .ref 151), (1, .int 2), (2, .int b)]) (st' := [.int (-1)]) (M' := s_M0) rfl ?_
            refine s_ek_ret (o := some (.int (-1))) (fun _ => rfl) ?_
            exact rfl
          · replace h7 : ¬ (b.toInt < 0) := h7
            replace h7 : 0 ≤ b.toInt := by omega
            omega
        · replace h6 : ¬ (¬ b.toInt = 1) := h6
          replace h6 : b.toInt = 1 := by omega
          omega
    rcases Int.lt_or_le 1 b.toInt with h4 | h4
    · show s_Ek (s_rows 3 L xs) 1299 s_e153.1 0 [(0, .ref 0), (1, .int 2), (2, .int b)] [] s_M0 _
      refine s_ek_bk 5 (P := 8) (ls' := [(0, .ref 0), (1, .int 2), (2, .int b)]) (st' := [.int 0]) (M' := s_M0) rfl ?_
      refine s_ek_call (ν := s_e173.1) (P := 11) (as := [.int 0]) (r := []) (fun _ => rfl) rfl ?_
      show s_Ek (s_rows 3 L xs) 1298 s_e173.1 0 [(0, .int 0)] [] s_M0 _
      refine s_ek_bk 7 (P := 14) (ls' := [(0, .int 0)]) (st' := [.int 1]) (M' := s_M0) rfl ?_
      refine s_ek_ret (o := some (.int 1)) (fun _ => rfl) ?_
      show s_Ek (s_rows 3 L xs) 1299 s_e153.1 11 [(0, .ref 0), (1, .int 2), (2, .int b)] [.int 1] s_M0 _
      refine s_ek_bk 4 (P := 18) (ls' := [(0, .ref 0), (1, .int 2), (2, .int b)]) (st' := [.int 2]) (M' := s_M0) rfl ?_
      refine s_ek_call (ν := s_e173.1) (P := 21) (as := [.int 2]) (r := []) (fun _ => rfl) rfl ?_
      show s_Ek (s_rows 3 L xs) 1298 s_e173.1 0 [(0, .int 2)] [] s_M0 _
      refine s_ek_bk 7 (P := 14) (ls' := [(0, .int 2)]) (st' := [.int 1]) (M' := s_M0) rfl ?_
      refine s_ek_ret (o := some (.int 1)) (fun _ => rfl) ?_
      show s_Ek (s_rows 3 L xs) 1299 s_e153.1 21 [(0, .ref 0), (1, .int 2), (2, .int b)] [.int 1] s_M0 _
      refine s_ek_bk 2 (P := 25) (ls' := [(0, .ref 0), (1, .int 2), (2, .int b)]) (st' := [.int b]) (M' := s_M0) rfl ?_
      refine s_ek_call (ν := s_e174.1) (P := 28) (as := [.int b]) (r := []) (fun _ => rfl) rfl ?_
      show s_Ek (s_rows 3 L xs) 1298 s_e174.1 0 [(0, .int b)] [] s_M0 _
      refine s_ek_bk 1 (P := 1) (ls' := [(0, .int b)]) (st' := [.int b]) (M' := s_M0) rfl ?_
      refine s_ek_if1 (T := 9) rfl rfl (fun h5 => ?_) (fun h5 => ?_)
      · replace h5 : b.toInt = 0 := h5
        omega
      · replace h5 : ¬ (b.toInt = 0) := h5
        replace h5 : ¬ b.toInt = 0 := by omega
        refine s_ek_bk 2 (P := 6) (ls' := [(0, .int b)]) (st' := [.int 1, .int b]) (M' := s_M0) rfl ?_
        refine s_ek_if2 (T := 13) rfl rfl (fun h6 => ?_) (fun h6 => ?_)
        · replace h6 : ¬ b.toInt = 1 := h6
          refine s_ek_bk 1 (P := 14) (ls' := [(0, .int b)]) (st' := [.int 0]) (M' := s_M0) rfl ?_
          refine s_ek_ret (o := some (.int 0)) (fun _ => rfl) ?_
          show s_Ek (s_rows 3 L xs) 1299 s_e153.1 28 [(0, .ref 0), (1, .int 2), (2, .int b)] [.int 0] s_M0 _
          refine s_ek_bk 2 (P := 32) (ls' := [(0, .ref 0), (1, .int 2), (2, .int b)]) (st' := [.int (-1)]) (M' := s_M0) rfl ?_
          refine s_ek_ret (o := some (.int (-1))) (fun _ => rfl) ?_
          refine ⟨(-1), rfl, ?_⟩
          show s_Ek (s_rows 3 L xs) 1299 s_e257.1 0 [(0, .ref 151), (1, .int 2), (2, .int b)] [] s_M0 _
          refine s_ek_bk 15 (P := 23) (ls' := [(0, .ref 151), (1, .int 2), (2, .int b)]) (st' := [.int 1, .int 0, .int b]) (M' := s_M0) rfl ?_
          refine s_ek_call (ν := s_e181.1) (P := 26) (as := [.int b, .int 0, .int 1]) (r := []) (fun _ => rfl) rfl ?_
          show s_Ek (s_rows 3 L xs) 1298 s_e181.1 0 [(0, .int b), (1, .int 0), (2, .int 1)] [] s_M0 _
          refine s_ek_bk 2 (P := 2) (ls' := [(0, .int b), (1, .int 0), (2, .int 1)]) (st' := [.int 0, .int b]) (M' := s_M0) rfl ?_
          refine s_ek_if2 (T := 14) rfl rfl (fun h7 => ?_) (fun h7 => ?_)
          · replace h7 : b.toInt < 0 := h7
            omega
          · replace h7 : ¬ (b.toInt < 0) := h7
            replace h7 : 0 ≤ b.toInt := by omega
            refine s_ek_bk 2 (P := 7) (ls' := [(0, .int b), (1, .int 0), (2, .int 1)]) (st' := [.int 1, .int b]) (M' := s_M0) rfl ?_
            refine s_ek_if2 (T := 14) rfl rfl (fun h8 => ?_) (fun h8 => ?_)
            · replace h8 : 1 < b.toInt := h8
              refine s_ek_bk 1 (P := 15) (ls' := [(0, .int b), (1, .int 0), (2, .int 1)]) (st' := [.int 0]) (M' := s_M0) rfl ?_
              refine s_ek_ret (o := some (.int 0)) (fun _ => rfl) ?_
              show s_Ek (s_rows 3 L xs) 1299 s_e257.1 26 [(0, .ref 151), (1, .int 2), (2, .int b)] [.int 0] s_M0 _
              refine s_ek_bk 2 (P := 30) (ls' := [(0, .ref 151), (1, .int 2), (2, .int b)]) (st' := [.int (-1)]) (M' := s_M0) rfl ?_
              refine s_ek_ret (o := some (.int (-1))) (fun _ => rfl) ?_
              exact rfl
            · replace h8 : ¬ (1 < b.toInt) := h8
              replace h8 : b.toInt ≤ 1 := by omega
              omega
        · replace h6 : ¬ (¬ b.toInt = 1) := h6
          replace h6 : b.toInt = 1 := by omega
          omega
    rcases s_rg_0_1 h3 h4 with rfl | rfl
    · exact s_ek_run s_El_rows s_clj_8 ⟨0, rfl, s_ek_run s_El_rows s_clj_9 rfl⟩
    · exact s_ek_run s_El_rows s_clj_10 ⟨(-2), rfl, s_ek_run s_El_rows s_clj_11 rfl⟩
  · rcases Int.lt_or_le b.toInt 0 with h3 | h3
    · show s_Ek (s_rows 3 L xs) 1299 s_e153.1 0 [(0, .ref 0), (1, .int 3), (2, .int b)] [] s_M0 _
      refine s_ek_bk 5 (P := 8) (ls' := [(0, .ref 0), (1, .int 3), (2, .int b)]) (st' := [.int 0]) (M' := s_M0) rfl ?_
      refine s_ek_call (ν := s_e173.1) (P := 11) (as := [.int 0]) (r := []) (fun _ => rfl) rfl ?_
      show s_Ek (s_rows 3 L xs) 1298 s_e173.1 0 [(0, .int 0)] [] s_M0 _
      refine s_ek_bk 7 (P := 14) (ls' := [(0, .int 0)]) (st' := [.int 1]) (M' := s_M0) rfl ?_
      refine s_ek_ret (o := some (.int 1)) (fun _ => rfl) ?_
      show s_Ek (s_rows 3 L xs) 1299 s_e153.1 11 [(0, .ref 0), (1, .int 3), (2, .int b)] [.int 1] s_M0 _
      refine s_ek_bk 4 (P := 18) (ls' := [(0, .ref 0), (1, .int 3), (2, .int b)]) (st' := [.int 3]) (M' := s_M0) rfl ?_
      refine s_ek_call (ν := s_e173.1) (P := 21) (as := [.int 3]) (r := []) (fun _ => rfl) rfl ?_
      show s_Ek (s_rows 3 L xs) 1298 s_e173.1 0 [(0, .int 3)] [] s_M0 _
      refine s_ek_bk 7 (P := 14) (ls' := [(0, .int 3)]) (st' := [.int 1]) (M' := s_M0) rfl ?_
      refine s_ek_ret (o := some (.int 1)) (fun _ => rfl) ?_
      show s_Ek (s_rows 3 L xs) 1299 s_e153.1 21 [(0, .ref 0), (1, .int 3), (2, .int b)] [.int 1] s_M0 _
      refine s_ek_bk 2 (P := 25) (ls' := [(0, .ref 0), (1, .int 3), (2, .int b)]) (st' := [.int b]) (M' := s_M0) rfl ?_
      refine s_ek_call (ν := s_e174.1) (P := 28) (as := [.int b]) (r := []) (fun _ => rfl) rfl ?_
      show s_Ek (s_rows 3 L xs) 1298 s_e174.1 0 [(0, .int b)] [] s_M0 _
      refine s_ek_bk 1 (P := 1) (ls' := [(0, .int b)]) (st' := [.int b]) (M' := s_M0) rfl ?_
      refine s_ek_if1 (T := 9) rfl rfl (fun h5 => ?_) (fun h5 => ?_)
      · replace h5 : b.toInt = 0 := h5
        omega
      · replace h5 : ¬ (b.toInt = 0) := h5
        replace h5 : ¬ b.toInt = 0 := by omega
        refine s_ek_bk 2 (P := 6) (ls' := [(0, .int b)]) (st' := [.int 1, .int b]) (M' := s_M0) rfl ?_
        refine s_ek_if2 (T := 13) rfl rfl (fun h6 => ?_) (fun h6 => ?_)
        · replace h6 : ¬ b.toInt = 1 := h6
          refine s_ek_bk 1 (P := 14) (ls' := [(0, .int b)]) (st' := [.int 0]) (M' := s_M0) rfl ?_
          refine s_ek_ret (o := some (.int 0)) (fun _ => rfl) ?_
          show s_Ek (s_rows 3 L xs) 1299 s_e153.1 28 [(0, .ref 0), (1, .int 3), (2, .int b)] [.int 0] s_M0 _
          refine s_ek_bk 2 (P := 32) (ls' := [(0, .ref 0), (1, .int 3), (2, .int b)]) (st' := [.int (-1)]) (M' := s_M0) rfl ?_
          refine s_ek_ret (o := some (.int (-1))) (fun _ => rfl) ?_
          refine ⟨(-1), rfl, ?_⟩
          show s_Ek (s_rows 3 L xs) 1299 s_e257.1 0 [(0, .ref 151), (1, .int 3), (2, .int b)] [] s_M0 _
          refine s_ek_bk 15 (P := 23) (ls' := [(0, .ref 151), (1, .int 3), (2, .int b)]) (st' := [.int 1, .int 0, .int b]) (M' := s_M0) rfl ?_
          refine s_ek_call (ν := s_e181.1) (P := 26) (as := [.int b, .int 0, .int 1]) (r := []) (fun _ => rfl) rfl ?_
          show s_Ek (s_rows 3 L xs) 1298 s_e181.1 0 [(0, .int b), (1, .int 0), (2, .int 1)] [] s_M0 _
          refine s_ek_bk 2 (P := 2) (ls' := [(0, .int b), (1, .int 0), (2, .int 1)]) (st' := [.int 0, .int b]) (M' := s_M0) rfl ?_
          refine s_ek_if2 (T := 14) rfl rfl (fun h7 => ?_) (fun h7 => ?_)
          · replace h7 : b.toInt < 0 := h7
            refine s_ek_bk 1 (P := 15) (ls' := [(0, .int b), (1, .int 0), (2, .int 1)]) (st' := [.int 0]) (M' := s_M0) rfl ?_
            refine s_ek_ret (o := some (.int 0)) (fun _ => rfl) ?_
            show s_Ek (s_rows 3 L xs) 1299 s_e257.1 26 [(0, .ref 151), (1, .int 3), (2, .int b)] [.int 0] s_M0 _
            refine s_ek_bk 2 (P := 30) (ls' := [(0, .ref 151), (1, .int 3), (2, .int b)]) (st' := [.int (-1)]) (M' := s_M0) rfl ?_
            refine s_ek_ret (o := some (.int (-1))) (fun _ => rfl) ?_
            exact rfl
          · replace h7 : ¬ (b.toInt < 0) := h7
            replace h7 : 0 ≤ b.toInt := by omega
            omega
        · replace h6 : ¬ (¬ b.toInt = 1) := h6
          replace h6 : b.toInt = 1 := by omega
          omega
    rcases Int.lt_or_le 1 b.toInt with h4 | h4
    · show s_Ek (s_rows 3 L xs) 1299 s_e153.1 0 [(0, .ref 0), (1, .int 3), (2, .int b)] [] s_M0 _
      refine s_ek_bk 5 (P := 8) (ls' := [(0, .ref 0), (1, .int 3), (2, .int b)]) (st' := [.int 0]) (M' := s_M0) rfl ?_
      refine s_ek_call (ν := s_e173.1) (P := 11) (as := [.int 0]) (r := []) (fun _ => rfl) rfl ?_
      show s_Ek (s_rows 3 L xs) 1298 s_e173.1 0 [(0, .int 0)] [] s_M0 _
      refine s_ek_bk 7 (P := 14) (ls' := [(0, .int 0)]) (st' := [.int 1]) (M' := s_M0) rfl ?_
      refine s_ek_ret (o := some (.int 1)) (fun _ => rfl) ?_
      show s_Ek (s_rows 3 L xs) 1299 s_e153.1 11 [(0, .ref 0), (1, .int 3), (2, .int b)] [.int 1] s_M0 _
      refine s_ek_bk 4 (P := 18) (ls' := [(0, .ref 0), (1, .int 3), (2, .int b)]) (st' := [.int 3]) (M' := s_M0) rfl ?_
      refine s_ek_call (ν := s_e173.1) (P := 21) (as := [.int 3]) (r := []) (fun _ => rfl) rfl ?_
      show s_Ek (s_rows 3 L xs) 1298 s_e173.1 0 [(0, .int 3)] [] s_M0 _
      refine s_ek_bk 7 (P := 14) (ls' := [(0, .int 3)]) (st' := [.int 1]) (M' := s_M0) rfl ?_
      refine s_ek_ret (o := some (.int 1)) (fun _ => rfl) ?_
      show s_Ek (s_rows 3 L xs) 1299 s_e153.1 21 [(0, .ref 0), (1, .int 3), (2, .int b)] [.int 1] s_M0 _
      refine s_ek_bk 2 (P := 25) (ls' := [(0, .ref 0), (1, .int 3), (2, .int b)]) (st' := [.int b]) (M' := s_M0) rfl ?_
      refine s_ek_call (ν := s_e174.1) (P := 28) (as := [.int b]) (r := []) (fun _ => rfl) rfl ?_
      show s_Ek (s_rows 3 L xs) 1298 s_e174.1 0 [(0, .int b)] [] s_M0 _
      refine s_ek_bk 1 (P := 1) (ls' := [(0, .int b)]) (st' := [.int b]) (M' := s_M0) rfl ?_
      refine s_ek_if1 (T := 9) rfl rfl (fun h5 => ?_) (fun h5 => ?_)
      · replace h5 : b.toInt = 0 := h5
        omega
      · replace h5 : ¬ (b.toInt = 0) := h5
        replace h5 : ¬ b.toInt = 0 := by omega
        refine s_ek_bk 2 (P := 6) (ls' := [(0, .int b)]) (st' := [.int 1, .int b]) (M' := s_M0) rfl ?_
        refine s_ek_if2 (T := 13) rfl rfl (fun h6 => ?_) (fun h6 => ?_)
        · replace h6 : ¬ b.toInt = 1 := h6
          refine s_ek_bk 1 (P := 14) (ls' := [(0, .int b)]) (st' := [.int 0]) (M' := s_M0) rfl ?_
          refine s_ek_ret (o := some (.int 0)) (fun _ => rfl) ?_
          show s_Ek (s_rows 3 L xs) 1299 s_e153.1 28 [(0, .ref 0), (1, .int 3), (2, .int b)] [.int 0] s_M0 _
          refine s_ek_bk 2 (P := 32) (ls' := [(0, .ref 0), (1, .int 3), (2, .int b)]) (st' := [.int (-1)]) (M' := s_M0) rfl ?_
          refine s_ek_ret (o := some (.int (-1))) (fun _ => rfl) ?_
          refine ⟨(-1), rfl, ?_⟩
          show s_Ek (s_rows 3 L xs) 1299 s_e257.1 0 [(0, .ref 151), (1, .int 3), (2, .int b)] [] s_M0 _
          refine s_ek_bk 15 (P := 23) (ls' := [(0, .ref 151), (1, .int 3), (2, .int b)]) (st' := [.int 1, .int 0, .int b]) (M' := s_M0) rfl ?_
          refine s_ek_call (ν := s_e181.1) (P := 26) (as := [.int b, .int 0, .int 1]) (r := []) (fun _ => rfl) rfl ?_
          show s_Ek (s_rows 3 L xs) 1298 s_e181.1 0 [(0, .int b), (1, .int 0), (2, .int 1)] [] s_M0 _
          refine s_ek_bk 2 (P := 2) (ls' := [(0, .int b), (1, .int 0), (2, .int 1)]) (st' := [.int 0, .int b]) (M' := s_M0) rfl ?_
          refine s_ek_if2 (T := 14) rfl rfl (fun h7 => ?_) (fun h7 => ?_)
          · replace h7 : b.toInt < 0 := h7
            omega
          · replace h7 : ¬ (b.toInt < 0) := h7
            replace h7 : 0 ≤ b.toInt := by omega
            refine s_ek_bk 2 (P := 7) (ls' := [(0, .int b), (1, .int 0), (2, .int 1)]) (st' := [.int 1, .int b]) (M' := s_M0) rfl ?_
            refine s_ek_if2 (T := 14) rfl rfl (fun h8 => ?_) (fun h8 => ?_)
            · replace h8 : 1 < b.toInt := h8
              refine s_ek_bk 1 (P := 15) (ls' := [(0, .int b), (1, .int 0), (2, .int 1)]) (st' := [.int 0]) (M' := s_M0) rfl ?_
              refine s_ek_ret (o := some (.int 0)) (fun _ => rfl) ?_
              show s_Ek (s_rows 3 L xs) 1299 s_e257.1 26 [(0, .ref 151), (1, .int 3), (2, .int b)] [.int 0] s_M0 _
              refine s_ek_bk 2 (P := 30) (ls' := [(0, .ref 151), (1, .int 3), (2, .int b)]) (st' := [.int (-1)]) (M' := s_M0) rfl ?_
              refine s_ek_ret (o := some (.int (-1))) (fun _ => rfl) ?_
              exact rfl
            · replace h8 : ¬ (1 < b.toInt) := h8
              replace h8 : b.toInt ≤ 1 := by omega
              omega
        · replace h6 : ¬ (¬ b.toInt = 1) := h6
          replace h6 : b.toInt = 1 := by omega
          omega
    rcases s_rg_0_1 h3 h4 with rfl | rfl
    · exact s_ek_run s_El_rows s_clj_12 ⟨0, rfl, s_ek_run s_El_rows s_clj_13 rfl⟩
    · exact s_ek_run s_El_rows s_clj_14 ⟨(-2), rfl, s_ek_run s_El_rows s_clj_15 rfl⟩
  · rcases Int.lt_or_le b.toInt 0 with h3 | h3
    · show s_Ek (s_rows 3 L xs) 1299 s_e153.1 0 [(0, .ref 0), (1, .int 4), (2, .int b)] [] s_M0 _
      refine s_ek_bk 5 (P := 8) (ls' := [(0, .ref 0), (1, .int 4), (2, .int b)]) (st' := [.int 0]) (M' := s_M0) rfl ?_
      refine s_ek_call (ν := s_e173.1) (P := 11) (as := [.int 0]) (r := []) (fun _ => rfl) rfl ?_
      show s_Ek (s_rows 3 L xs) 1298 s_e173.1 0 [(0, .int 0)] [] s_M0 _
      refine s_ek_bk 7 (P := 14) (ls' := [(0, .int 0)]) (st' := [.int 1]) (M' := s_M0) rfl ?_
      refine s_ek_ret (o := some (.int 1)) (fun _ => rfl) ?_
      show s_Ek (s_rows 3 L xs) 1299 s_e153.1 11 [(0, .ref 0), (1, .int 4), (2, .int b)] [.int 1] s_M0 _
      refine s_ek_bk 4 (P := 18) (ls' := [(0, .ref 0), (1, .int 4), (2, .int b)]) (st' := [.int 4]) (M' := s_M0) rfl ?_
      refine s_ek_call (ν := s_e173.1) (P := 21) (as := [.int 4]) (r := []) (fun _ => rfl) rfl ?_
      show s_Ek (s_rows 3 L xs) 1298 s_e173.1 0 [(0, .int 4)] [] s_M0 _
      refine s_ek_bk 6 (P := 14) (ls' := [(0, .int 4)]) (st' := [.int 0]) (M' := s_M0) rfl ?_
      refine s_ek_ret (o := some (.int 0)) (fun _ => rfl) ?_
      show s_Ek (s_rows 3 L xs) 1299 s_e153.1 21 [(0, .ref 0), (1, .int 4), (2, .int b)] [.int 0] s_M0 _
      refine s_ek_bk 2 (P := 32) (ls' := [(0, .ref 0), (1, .int 4), (2, .int b)]) (st' := [.int (-1)]) (M' := s_M0) rfl ?_
      refine s_ek_ret (o := some (.int (-1))) (fun _ => rfl) ?_
      refine ⟨(-1), rfl, ?_⟩
      show s_Ek (s_rows 3 L xs) 1299 s_e257.1 0 [(0, .ref 151), (1, .int 4), (2, .int b)] [] s_M0 _
      refine s_ek_bk 13 (P := 30) (ls' := [(0, .ref 151), (1, .int 4), (2, .int b)]) (st' := [.int (-1)]) (M' := s_M0) rfl ?_
      refine s_ek_ret (o := some (.int (-1))) (fun _ => rfl) ?_
      exact rfl
    rcases Int.lt_or_le 1 b.toInt with h4 | h4
    · show s_Ek (s_rows 3 L xs) 1299 s_e153.1 0 [(0, .ref 0), (1, .int 4), (2, .int b)] [] s_M0 _
      refine s_ek_bk 5 (P := 8) (ls' := [(0, .ref 0), (1, .int 4), (2, .int b)]) (st' := [.int 0]) (M' := s_M0) rfl ?_
      refine s_ek_call (ν := s_e173.1) (P := 11) (as := [.int 0]) (r := []) (fun _ => rfl) rfl ?_
      show s_Ek (s_rows 3 L xs) 1298 s_e173.1 0 [(0, .int 0)] [] s_M0 _
      refine s_ek_bk 7 (P := 14) (ls' := [(0, .int 0)]) (st' := [.int 1]) (M' := s_M0) rfl ?_
      refine s_ek_ret (o := some (.int 1)) (fun _ => rfl) ?_
      show s_Ek (s_rows 3 L xs) 1299 s_e153.1 11 [(0, .ref 0), (1, .int 4), (2, .int b)] [.int 1] s_M0 _
      refine s_ek_bk 4 (P := 18) (ls' := [(0, .ref 0), (1, .int 4), (2, .int b)]) (st' := [.int 4]) (M' := s_M0) rfl ?_
      refine s_ek_call (ν := s_e173.1) (P := 21) (as := [.int 4]) (r := []) (fun _ => rfl) rfl ?_
      show s_Ek (s_rows 3 L xs) 1298 s_e173.1 0 [(0, .int 4)] [] s_M0 _
      refine s_ek_bk 6 (P := 14) (ls' := [(0, .int 4)]) (st' := [.int 0]) (M' := s_M0) rfl ?_
      refine s_ek_ret (o := some (.int 0)) (fun _ => rfl) ?_
      show s_Ek (s_rows 3 L xs) 1299 s_e153.1 21 [(0, .ref 0), (1, .int 4), (2, .int b)] [.int 0] s_M0 _
      refine s_ek_bk 2 (P := 32) (ls' := [(0, .ref 0), (1, .int 4), (2, .int b)]) (st' := [.int (-1)]) (M' := s_M0) rfl ?_
      refine s_ek_ret (o := some (.int (-1))) (fun _ => rfl) ?_
      refine ⟨(-1), rfl, ?_⟩
      show s_Ek (s_rows 3 L xs) 1299 s_e257.1 0 [(0, .ref 151), (1, .int 4), (2, .int b)] [] s_M0 _
      refine s_ek_bk 13 (P := 30) (ls' := [(0, .ref 151), (1, .int 4), (2, .int b)]) (st' := [.int (-1)]) (M' := s_M0) rfl ?_
      refine s_ek_ret (o := some (.int (-1))) (fun _ => rfl) ?_
      exact rfl
    rcases s_rg_0_1 h3 h4 with rfl | rfl
    · exact s_ek_run s_El_rows s_clj_16 ⟨(-1), rfl, s_ek_run s_El_rows s_clj_17 rfl⟩
    · exact s_ek_run s_El_rows s_clj_18 ⟨(-1), rfl, s_ek_run s_El_rows s_clj_19 rfl⟩
  · rcases Int.lt_or_le b.toInt 0 with h3 | h3
    · show s_Ek (s_rows 3 L xs) 1299 s_e153.1 0 [(0, .ref 0), (1, .int 5), (2, .int b)] [] s_M0 _
      refine s_ek_bk 5 (P := 8) (ls' := [(0, .ref 0), (1, .int 5), (2, .int b)]) (st' := [.int 0]) (M' := s_M0) rfl ?_
      refine s_ek_call (ν := s_e173.1) (P := 11) (as := [.int 0]) (r := []) (fun _ => rfl) rfl ?_
      show s_Ek (s_rows 3 L xs) 1298 s_e173.1 0 [(0, .int 0)] [] s_M0 _
      refine s_ek_bk 7 (P := 14) (ls' := [(0, .int 0)]) (st' := [.int 1]) (M' := s_M0) rfl ?_
      refine s_ek_ret (o := some (.int 1)) (fun _ => rfl) ?_
      show s_Ek (s_rows 3 L xs) 1299 s_e153.1 11 [(0, .ref 0), (1, .int 5), (2, .int b)] [.int 1] s_M0 _
      refine s_ek_bk 4 (P := 18) (ls' := [(0, .ref 0), (1, .int 5), (2, .int b)]) (st' := [.int 5]) (M' := s_M0) rfl ?_
      refine s_ek_call (ν := s_e173.1) (P := 21) (as := [.int 5]) (r := []) (fun _ => rfl) rfl ?_
      show s_Ek (s_rows 3 L xs) 1298 s_e173.1 0 [(0, .int 5)] [] s_M0 _
      refine s_ek_bk 6 (P := 14) (ls' := [(0, .int 5)]) (st' := [.int 0]) (M' := s_M0) rfl ?_
      refine s_ek_ret (o := some (.int 0)) (fun _ => rfl) ?_
      show s_Ek (s_rows 3 L xs) 1299 s_e153.1 21 [(0, .ref 0), (1, .int 5), (2, .int b)] [.int 0] s_M0 _
      refine s_ek_bk 2 (P := 32) (ls' := [(0, .ref 0), (1, .int 5), (2, .int b)]) (st' := [.int (-1)]) (M' := s_M0) rfl ?_
      refine s_ek_ret (o := some (.int (-1))) (fun _ => rfl) ?_
      refine ⟨(-1), rfl, ?_⟩
      show s_Ek (s_rows 3 L xs) 1299 s_e257.1 0 [(0, .ref 151), (1, .int 5), (2, .int b)] [] s_M0 _
      refine s_ek_bk 13 (P := 30) (ls' := [(0, .ref 151), (1, .int 5), (2, .int b)]) (st' := [.int (-1)]) (M' := s_M0) rfl ?_
      refine s_ek_ret (o := some (.int (-1))) (fun _ => rfl) ?_
      exact rfl
    rcases Int.lt_or_le 1 b.toInt with h4 | h4
    · show s_Ek (s_rows 3 L xs) 1299 s_e153.1 0 [(0, .ref 0), (1, .int 5), (2, .int b)] [] s_M0 _
      refine s_ek_bk 5 (P := 8) (ls' := [(0, .ref 0), (1, .int 5), (2, .int b)]) (st' := [.int 0]) (M' := s_M0) rfl ?_
      refine s_ek_call (ν := s_e173.1) (P := 11) (as := [.int 0]) (r := []) (fun _ => rfl) rfl ?_
      show s_Ek (s_rows 3 L xs) 1298 s_e173.1 0 [(0, .int 0)] [] s_M0 _
      refine s_ek_bk 7 (P := 14) (ls' := [(0, .int 0)]) (st' := [.int 1]) (M' := s_M0) rfl ?_
      refine s_ek_ret (o := some (.int 1)) (fun _ => rfl) ?_
      show s_Ek (s_rows 3 L xs) 1299 s_e153.1 11 [(0, .ref 0), (1, .int 5), (2, .int b)] [.int 1] s_M0 _
      refine s_ek_bk 4 (P := 18) (ls' := [(0, .ref 0), (1, .int 5), (2, .int b)]) (st' := [.int 5]) (M' := s_M0) rfl ?_
      refine s_ek_call (ν := s_e173.1) (P := 21) (as := [.int 5]) (r := []) (fun _ => rfl) rfl ?_
      show s_Ek (s_rows 3 L xs) 1298 s_e173.1 0 [(0, .int 5)] [] s_M0 _
      refine s_ek_bk 6 (P := 14) (ls' := [(0, .int 5)]) (st' := [.int 0]) (M' := s_M0) rfl ?_
      refine s_ek_ret (o := some (.int 0)) (fun _ => rfl) ?_
      show s_Ek (s_rows 3 L xs) 1299 s_e153.1 21 [(0, .ref 0), (1, .int 5), (2, .int b)] [.int 0] s_M0 _
      refine s_ek_bk 2 (P := 32) (ls' := [(0, .ref 0), (1, .int 5), (2, .int b)]) (st' := [.int (-1)]) (M' := s_M0) rfl ?_
      refine s_ek_ret (o := some (.int (-1))) (fun _ => rfl) ?_
      refine ⟨(-1), rfl, ?_⟩
      show s_Ek (s_rows 3 L xs) 1299 s_e257.1 0 [(0, .ref 151), (1, .int 5), (2, .int b)] [] s_M0 _
      refine s_ek_bk 13 (P := 30) (ls' := [(0, .ref 151), (1, .int 5), (2, .int b)]) (st' := [.int (-1)]) (M' := s_M0) rfl ?_
      refine s_ek_ret (o := some (.int (-1))) (fun _ => rfl) ?_
      exact rfl
    rcases s_rg_0_1 h3 h4 with rfl | rfl
    · exact s_ek_run s_El_rows s_clj_20 ⟨(-1), rfl, s_ek_run s_El_rows s_clj_21 rfl⟩
    · exact s_ek_run s_El_rows s_clj_22 ⟨(-1), rfl, s_ek_run s_El_rows s_clj_23 rfl⟩
  · rcases Int.lt_or_le b.toInt 0 with h3 | h3
    · show s_Ek (s_rows 3 L xs) 1299 s_e153.1 0 [(0, .ref 0), (1, .int 6), (2, .int b)] [] s_M0 _
      refine s_ek_bk 5 (P := 8) (ls' := [(0, .ref 0), (1, .int 6), (2, .int b)]) (st' := [.int 0]) (M' := s_M0) rfl ?_
      refine s_ek_call (ν := s_e173.1) (P := 11) (as := [.int 0]) (r := []) (fun _ => rfl) rfl ?_
      show s_Ek (s_rows 3 L xs) 1298 s_e173.1 0 [(0, .int 0)] [] s_M0 _
      refine s_ek_bk 7 (P := 14) (ls' := [(0, .int 0)]) (st' := [.int 1]) (M' := s_M0) rfl ?_
      refine s_ek_ret (o := some (.int 1)) (fun _ => rfl) ?_
      show s_Ek (s_rows 3 L xs) 1299 s_e153.1 11 [(0, .ref 0), (1, .int 6), (2, .int b)] [.int 1] s_M0 _
      refine s_ek_bk 4 (P := 18) (ls' := [(0, .ref 0), (1, .int 6), (2, .int b)]) (st' := [.int 6]) (M' := s_M0) rfl ?_
      refine s_ek_call (ν := s_e173.1) (P := 21) (as := [.int 6]) (r := []) (fun _ => rfl) rfl ?_
      show s_Ek (s_rows 3 L xs) 1298 s_e173.1 0 [(0, .int 6)] [] s_M0 _
      refine s_ek_bk 6 (P := 14) (ls' := [(0, .int 6)]) (st' := [.int 0]) (M' := s_M0) rfl ?_
      refine s_ek_ret (o := some (.int 0)) (fun _ => rfl) ?_
      show s_Ek (s_rows 3 L xs) 1299 s_e153.1 21 [(0, .ref 0), (1, .int 6), (2, .int b)] [.int 0] s_M0 _
      refine s_ek_bk 2 (P := 32) (ls' := [(0, .ref 0), (1, .int 6), (2, .int b)]) (st' := [.int (-1)]) (M' := s_M0) rfl ?_
      refine s_ek_ret (o := some (.int (-1))) (fun _ => rfl) ?_
      refine ⟨(-1), rfl, ?_⟩
      show s_Ek (s_rows 3 L xs) 1299 s_e257.1 0 [(0, .ref 151), (1, .int 6), (2, .int b)] [] s_M0 _
      refine s_ek_bk 13 (P := 30) (ls' := [(0, .ref 151), (1, .int 6), (2, .int b)]) (st' := [.int (-1)]) (M' := s_M0) rfl ?_
      refine s_ek_ret (o := some (.int (-1))) (fun _ => rfl) ?_
      exact rfl
    rcases Int.lt_or_le 1 b.toInt with h4 | h4
    · show s_Ek (s_rows 3 L xs) 1299 s_e153.1 0 [(0, .ref 0), (1, .int 6), (2, .int b)] [] s_M0 _
      refine s_ek_bk 5 (P := 8) (ls' := [(0, .ref 0), (1, .int 6), (2, .int b)]) (st' := [.int 0]) (M' := s_M0) rfl ?_
      refine s_ek_call (ν := s_e173.1) (P := 11) (as := [.int 0]) (r := []) (fun _ => rfl) rfl ?_
      show s_Ek (s_rows 3 L xs) 1298 s_e173.1 0 [(0, .int 0)] [] s_M0 _
      refine s_ek_bk 7 (P := 14) (ls' := [(0, .int 0)]) (st' := [.int 1]) (M' := s_M0) rfl ?_
      refine s_ek_ret (o := some (.int 1)) (fun _ => rfl) ?_
      show s_Ek (s_rows 3 L xs) 1299 s_e153.1 11 [(0, .ref 0), (1, .int 6), (2, .int b)] [.int 1] s_M0 _
      refine s_ek_bk 4 (P := 18) (ls' := [(0, .ref 0), (1, .int 6), (2, .int b)]) (st' := [.int 6]) (M' := s_M0) rfl ?_
      refine s_ek_call (ν := s_e173.1) (P := 21) (as := [.int 6]) (r := []) (fun _ => rfl) rfl ?_
      show s_Ek (s_rows 3 L xs) 1298 s_e173.1 0 [(0, .int 6)] [] s_M0 _
      refine s_ek_bk 6 (P := 14) (ls' := [(0, .int 6)]) (st' := [.int 0]) (M' := s_M0) rfl ?_
      refine s_ek_ret (o := some (.int 0)) (fun _ => rfl) ?_
      show s_Ek (s_rows 3 L xs) 1299 s_e153.1 21 [(0, .ref 0), (1, .int 6), (2, .int b)] [.int 0] s_M0 _
      refine s_ek_bk 2 (P := 32) (ls' := [(0, .ref 0), (1, .int 6), (2, .int b)]) (st' := [.int (-1)]) (M' := s_M0) rfl ?_
      refine s_ek_ret (o := some (.int (-1))) (fun _ => rfl) ?_
      refine ⟨(-1), rfl, ?_⟩
      show s_Ek (s_rows 3 L xs) 1299 s_e257.1 0 [(0, .ref 151), (1, .int 6), (2, .int b)] [] s_M0 _
      refine s_ek_bk 13 (P := 30) (ls' := [(0, .ref 151), (1, .int 6), (2, .int b)]) (st' := [.int (-1)]) (M' := s_M0) rfl ?_
      refine s_ek_ret (o := some (.int (-1))) (fun _ => rfl) ?_
      exact rfl
    rcases s_rg_0_1 h3 h4 with rfl | rfl
    · exact s_ek_run s_El_rows s_clj_24 ⟨(-1), rfl, s_ek_run s_El_rows s_clj_25 rfl⟩
    · exact s_ek_run s_El_rows s_clj_26 ⟨(-1), rfl, s_ek_run s_El_rows s_clj_27 rfl⟩
  · rcases Int.lt_or_le b.toInt 0 with h3 | h3
    · show s_Ek (s_rows 3 L xs) 1299 s_e153.1 0 [(0, .ref 0), (1, .int 7), (2, .int b)] [] s_M0 _
      refine s_ek_bk 5 (P := 8) (ls' := [(0, .ref 0), (1, .int 7), (2, .int b)]) (st' := [.int 0]) (M' := s_M0) rfl ?_
      refine s_ek_call (ν := s_e173.1) (P := 11) (as := [.int 0]) (r := []) (fun _ => rfl) rfl ?_
      show s_Ek (s_rows 3 L xs) 1298 s_e173.1 0 [(0, .int 0)] [] s_M0 _
      refine s_ek_bk 7 (P := 14) (ls' := [(0, .int 0)]) (st' := [.int 1]) (M' := s_M0) rfl ?_
      refine s_ek_ret (o := some (.int 1)) (fun _ => rfl) ?_
      show s_Ek (s_rows 3 L xs) 1299 s_e153.1 11 [(0, .ref 0), (1, .int 7), (2, .int b)] [.int 1] s_M0 _
      refine s_ek_bk 4 (P := 18) (ls' := [(0, .ref 0), (1, .int 7), (2, .int b)]) (st' := [.int 7]) (M' := s_M0) rfl ?_
      refine s_ek_call (ν := s_e173.1) (P := 21) (as := [.int 7]) (r := []) (fun _ => rfl) rfl ?_
      show s_Ek (s_rows 3 L xs) 1298 s_e173.1 0 [(0, .int 7)] [] s_M0 _
      refine s_ek_bk 6 (P := 14) (ls' := [(0, .int 7)]) (st' := [.int 0]) (M' := s_M0) rfl ?_
      refine s_ek_ret (o := some (.int 0)) (fun _ => rfl) ?_
      show s_Ek (s_rows 3 L xs) 1299 s_e153.1 21 [(0, .ref 0), (1, .int 7), (2, .int b)] [.int 0] s_M0 _
      refine s_ek_bk 2 (P := 32) (ls' := [(0, .ref 0), (1, .int 7), (2, .int b)]) (st' := [.int (-1)]) (M' := s_M0) rfl ?_
      refine s_ek_ret (o := some (.int (-1))) (fun _ => rfl) ?_
      refine ⟨(-1), rfl, ?_⟩
      show s_Ek (s_rows 3 L xs) 1299 s_e257.1 0 [(0, .ref 151), (1, .int 7), (2, .int b)] [] s_M0 _
      refine s_ek_bk 13 (P := 30) (ls' := [(0, .ref 151), (1, .int 7), (2, .int b)]) (st' := [.int (-1)]) (M' := s_M0) rfl ?_
      refine s_ek_ret (o := some (.int (-1))) (fun _ => rfl) ?_
      exact rfl
    rcases Int.lt_or_le 1 b.toInt with h4 | h4
    · show s_Ek (s_rows 3 L xs) 1299 s_e153.1 0 [(0, .ref 0), (1, .int 7), (2, .int b)] [] s_M0 _
      refine s_ek_bk 5 (P := 8) (ls' := [(0, .ref 0), (1, .int 7), (2, .int b)]) (st' := [.int 0]) (M' := s_M0) rfl ?_
      refine s_ek_call (ν := s_e173.1) (P := 11) (as := [.int 0]) (r := []) (fun _ => rfl) rfl ?_
      show s_Ek (s_rows 3 L xs) 1298 s_e173.1 0 [(0, .int 0)] [] s_M0 _
      refine s_ek_bk 7 (P := 14) (ls' := [(0, .int 0)]) (st' := [.int 1]) (M' := s_M0) rfl ?_
      refine s_ek_ret (o := some (.int 1)) (fun _ => rfl) ?_
      show s_Ek (s_rows 3 L xs) 1299 s_e153.1 11 [(0, .ref 0), (1, .int 7), (2, .int b)] [.int 1] s_M0 _
      refine s_ek_bk 4 (P := 18) (ls' := [(0, .ref 0), (1, .int 7), (2, .int b)]) (st' := [.int 7]) (M' := s_M0) rfl ?_
      refine s_ek_call (ν := s_e173.1) (P := 21) (as := [.int 7]) (r := []) (fun _ => rfl) rfl ?_
      show s_Ek (s_rows 3 L xs) 1298 s_e173.1 0 [(0, .int 7)] [] s_M0 _
      refine s_ek_bk 6 (P := 14) (ls' := [(0, .int 7)]) (st' := [.int 0]) (M' := s_M0) rfl ?_
      refine s_ek_ret (o := some (.int 0)) (fun _ => rfl) ?_
      show s_Ek (s_rows 3 L xs) 1299 s_e153.1 21 [(0, .ref 0), (1, .int 7), (2, .int b)] [.int 0] s_M0 _
      refine s_ek_bk 2 (P := 32) (ls' := [(0, .ref 0), (1, .int 7), (2, .int b)]) (st' := [.int (-1)]) (M' := s_M0) rfl ?_
      refine s_ek_ret (o := some (.int (-1))) (fun _ => rfl) ?_
      refine ⟨(-1), rfl, ?_⟩
      show s_Ek (s_rows 3 L xs) 1299 s_e257.1 0 [(0, .ref 151), (1, .int 7), (2, .int b)] [] s_M0 _
      refine s_ek_bk 13 (P := 30) (ls' := [(0, .ref 151), (1, .int 7), (2, .int b)]) (st' := [.int (-1)]) (M' := s_M0) rfl ?_
      refine s_ek_ret (o := some (.int (-1))) (fun _ => rfl) ?_
      exact rfl
    rcases s_rg_0_1 h3 h4 with rfl | rfl
    · exact s_ek_run s_El_rows s_clj_28 ⟨(-1), rfl, s_ek_run s_El_rows s_clj_29 rfl⟩
    · exact s_ek_run s_El_rows s_clj_30 ⟨(-1), rfl, s_ek_run s_El_rows s_clj_31 rfl⟩
  · rcases Int.lt_or_le b.toInt 0 with h3 | h3
    · show s_Ek (s_rows 3 L xs) 1299 s_e153.1 0 [(0, .ref 0), (1, .int 8), (2, .int b)] [] s_M0 _
      refine s_ek_bk 5 (P := 8) (ls' := [(0, .ref 0), (1, .int 8), (2, .int b)]) (st' := [.int 0]) (M' := s_M0) rfl ?_
      refine s_ek_call (ν := s_e173.1) (P := 11) (as := [.int 0]) (r := []) (fun _ => rfl) rfl ?_
      show s_Ek (s_rows 3 L xs) 1298 s_e173.1 0 [(0, .int 0)] [] s_M0 _
      refine s_ek_bk 7 (P := 14) (ls' := [(0, .int 0)]) (st' := [.int 1]) (M' := s_M0) rfl ?_
      refine s_ek_ret (o := some (.int 1)) (fun _ => rfl) ?_
      show s_Ek (s_rows 3 L xs) 1299 s_e153.1 11 [(0, .ref 0), (1, .int 8), (2, .int b)] [.int 1] s_M0 _
      refine s_ek_bk 4 (P := 18) (ls' := [(0, .ref 0), (1, .int 8), (2, .int b)]) (st' := [.int 8]) (M' := s_M0) rfl ?_
      refine s_ek_call (ν := s_e173.1) (P := 21) (as := [.int 8]) (r := []) (fun _ => rfl) rfl ?_
      show s_Ek (s_rows 3 L xs) 1298 s_e173.1 0 [(0, .int 8)] [] s_M0 _
      refine s_ek_bk 6 (P := 14) (ls' := [(0, .int 8)]) (st' := [.int 0]) (M' := s_M0) rfl ?_
      refine s_ek_ret (o := some (.int 0)) (fun _ => rfl) ?_
      show s_Ek (s_rows 3 L xs) 1299 s_e153.1 21 [(0, .ref 0), (1, .int 8), (2, .int b)] [.int 0] s_M0 _
      refine s_ek_bk 2 (P := 32) (ls' := [(0, .ref 0), (1, .int 8), (2, .int b)]) (st' := [.int (-1)]) (M' := s_M0) rfl ?_
      refine s_ek_ret (o := some (.int (-1))) (fun _ => rfl) ?_
      refine ⟨(-1), rfl, ?_⟩
      show s_Ek (s_rows 3 L xs) 1299 s_e257.1 0 [(0, .ref 151), (1, .int 8), (2, .int b)] [] s_M0 _
      refine s_ek_bk 13 (P := 30) (ls' := [(0, .ref 151), (1, .int 8), (2, .int b)]) (st' := [.int (-1)]) (M' := s_M0) rfl ?_
      refine s_ek_ret (o := some (.int (-1))) (fun _ => rfl) ?_
      exact rfl
    rcases Int.lt_or_le 1 b.toInt with h4 | h4
    · show s_Ek (s_rows 3 L xs) 1299 s_e153.1 0 [(0, .ref 0), (1, .int 8), (2, .int b)] [] s_M0 _
      refine s_ek_bk 5 (P := 8) (ls' := [(0, .ref 0), (1, .int 8), (2, .int b)]) (st' := [.int 0]) (M' := s_M0) rfl ?_
      refine s_ek_call (ν := s_e173.1) (P := 11) (as := [.int 0]) (r := []) (fun _ => rfl) rfl ?_
      show s_Ek (s_rows 3 L xs) 1298 s_e173.1 0 [(0, .int 0)] [] s_M0 _
      refine s_ek_bk 7 (P := 14) (ls' := [(0, .int 0)]) (st' := [.int 1]) (M' := s_M0) rfl ?_
      refine s_ek_ret (o := some (.int 1)) (fun _ => rfl) ?_
      show s_Ek (s_rows 3 L xs) 1299 s_e153.1 11 [(0, .ref 0), (1, .int 8), (2, .int b)] [.int 1] s_M0 _
      refine s_ek_bk 4 (P := 18) (ls' := [(0, .ref 0), (1, .int 8), (2, .int b)]) (st' := [.int 8]) (M' := s_M0) rfl ?_
      refine s_ek_call (ν := s_e173.1) (P := 21) (as := [.int 8]) (r := []) (fun _ => rfl) rfl ?_
      show s_Ek (s_rows 3 L xs) 1298 s_e173.1 0 [(0, .int 8)] [] s_M0 _
      refine s_ek_bk 6 (P := 14) (ls' := [(0, .int 8)]) (st' := [.int 0]) (M' := s_M0) rfl ?_
      refine s_ek_ret (o := some (.int 0)) (fun _ => rfl) ?_
      show s_Ek (s_rows 3 L xs) 1299 s_e153.1 21 [(0, .ref 0), (1, .int 8), (2, .int b)] [.int 0] s_M0 _
      refine s_ek_bk 2 (P := 32) (ls' := [(0, .ref 0), (1, .int 8), (2, .int b)]) (st' := [.int (-1)]) (M' := s_M0) rfl ?_
      refine s_ek_ret (o := some (.int (-1))) (fun _ => rfl) ?_
      refine ⟨(-1), rfl, ?_⟩
      show s_Ek (s_rows 3 L xs) 1299 s_e257.1 0 [(0, .ref 151), (1, .int 8), (2, .int b)] [] s_M0 _
      refine s_ek_bk 13 (P := 30) (ls' := [(0, .ref 151), (1, .int 8), (2, .int b)]) (st' := [.int (-1)]) (M' := s_M0) rfl ?_
      refine s_ek_ret (o := some (.int (-1))) (fun _ => rfl) ?_
      exact rfl
    rcases s_rg_0_1 h3 h4 with rfl | rfl
    · exact s_ek_run s_El_rows s_clj_32 ⟨(-1), rfl, s_ek_run s_El_rows s_clj_33 rfl⟩
    · exact s_ek_run s_El_rows s_clj_34 ⟨(-1), rfl, s_ek_run s_El_rows s_clj_35 rfl⟩
  · rcases Int.lt_or_le b.toInt 0 with h3 | h3
    · show s_Ek (s_rows 3 L xs) 1299 s_e153.1 0 [(0, .ref 0), (1, .int 9), (2, .int b)] [] s_M0 _
      refine s_ek_bk 5 (P := 8) (ls' := [(0, .ref 0), (1, .int 9), (2, .int b)]) (st' := [.int 0]) (M' := s_M0) rfl ?_
      refine s_ek_call (ν := s_e173.1) (P := 11) (as := [.int 0]) (r := []) (fun _ => rfl) rfl ?_
      show s_Ek (s_rows 3 L xs) 1298 s_e173.1 0 [(0, .int 0)] [] s_M0 _
      refine s_ek_bk 7 (P := 14) (ls' := [(0, .int 0)]) (st' := [.int 1]) (M' := s_M0) rfl ?_
      refine s_ek_ret (o := some (.int 1)) (fun _ => rfl) ?_
      show s_Ek (s_rows 3 L xs) 1299 s_e153.1 11 [(0, .ref 0), (1, .int 9), (2, .int b)] [.int 1] s_M0 _
      refine s_ek_bk 4 (P := 18) (ls' := [(0, .ref 0), (1, .int 9), (2, .int b)]) (st' := [.int 9]) (M' := s_M0) rfl ?_
      refine s_ek_call (ν := s_e173.1) (P := 21) (as := [.int 9]) (r := []) (fun _ => rfl) rfl ?_
      show s_Ek (s_rows 3 L xs) 1298 s_e173.1 0 [(0, .int 9)] [] s_M0 _
      refine s_ek_bk 6 (P := 14) (ls' := [(0, .int 9)]) (st' := [.int 0]) (M' := s_M0) rfl ?_
      refine s_ek_ret (o := some (.int 0)) (fun _ => rfl) ?_
      show s_Ek (s_rows 3 L xs) 1299 s_e153.1 21 [(0, .ref 0), (1, .int 9), (2, .int b)] [.int 0] s_M0 _
      refine s_ek_bk 2 (P := 32) (ls' := [(0, .ref 0), (1, .int 9), (2, .int b)]) (st' := [.int (-1)]) (M' := s_M0) rfl ?_
      refine s_ek_ret (o := some (.int (-1))) (fun _ => rfl) ?_
      refine ⟨(-1), rfl, ?_⟩
      show s_Ek (s_rows 3 L xs) 1299 s_e257.1 0 [(0, .ref 151), (1, .int 9), (2, .int b)] [] s_M0 _
      refine s_ek_bk 13 (P := 30) (ls' := [(0, .ref 151), (1, .int 9), (2, .int b)]) (st' := [.int (-1)]) (M' := s_M0) rfl ?_
      refine s_ek_ret (o := some (.int (-1))) (fun _ => rfl) ?_
      exact rfl
    rcases Int.lt_or_le 1 b.toInt with h4 | h4
    · show s_Ek (s_rows 3 L xs) 1299 s_e153.1 0 [(0, .ref 0), (1, .int 9), (2, .int b)] [] s_M0 _
      refine s_ek_bk 5 (P := 8) (ls' := [(0, .ref 0), (1, .int 9), (2, .int b)]) (st' := [.int 0]) (M' := s_M0) rfl ?_
      refine s_ek_call (ν := s_e173.1) (P := 11) (as := [.int 0]) (r := []) (fun _ => rfl) rfl ?_
      show s_Ek (s_rows 3 L xs) 1298 s_e173.1 0 [(0, .int 0)] [] s_M0 _
      refine s_ek_bk 7 (P := 14) (ls' := [(0, .int 0)]) (st' := [.int 1]) (M' := s_M0) rfl ?_
      refine s_ek_ret (o := some (.int 1)) (fun _ => rfl) ?_
      show s_Ek (s_rows 3 L xs) 1299 s_e153.1 11 [(0, .ref 0), (1, .int 9), (2, .int b)] [.int 1] s_M0 _
      refine s_ek_bk 4 (P := 18) (ls' := [(0, .ref 0), (1, .int 9), (2, .int b)]) (st' := [.int 9]) (M' := s_M0) rfl ?_
      refine s_ek_call (ν := s_e173.1) (P := 21) (as := [.int 9]) (r := []) (fun _ => rfl) rfl ?_
      show s_Ek (s_rows 3 L xs) 1298 s_e173.1 0 [(0, .int 9)] [] s_M0 _
      refine s_ek_bk 6 (P := 14) (ls' := [(0, .int 9)]) (st' := [.int 0]) (M' := s_M0) rfl ?_
      refine s_ek_ret (o := some (.int 0)) (fun _ => rfl) ?_
      show s_Ek (s_rows 3 L xs) 1299 s_e153.1 21 [(0, .ref 0), (1, .int 9), (2, .int b)] [.int 0] s_M0 _
      refine s_ek_bk 2 (P := 32) (ls' := [(0, .ref 0), (1, .int 9), (2, .int b)]) (st' := [.int (-1)]) (M' := s_M0) rfl ?_
      refine s_ek_ret (o := some (.int (-1))) (fun _ => rfl) ?_
      refine ⟨(-1), rfl, ?_⟩
      show s_Ek (s_rows 3 L xs) 1299 s_e257.1 0 [(0, .ref 151), (1, .int 9), (2, .int b)] [] s_M0 _
      refine s_ek_bk 13 (P := 30) (ls' := [(0, .ref 151), (1, .int 9), (2, .int b)]) (st' := [.int (-1)]) (M' := s_M0) rfl ?_
      refine s_ek_ret (o := some (.int (-1))) (fun _ => rfl) ?_
      exact rfl
    rcases s_rg_0_1 h3 h4 with rfl | rfl
    · exact s_ek_run s_El_rows s_clj_36 ⟨(-1), rfl, s_ek_run s_El_rows s_clj_37 rfl⟩
    · exact s_ek_run s_El_rows s_clj_38 ⟨(-1), rfl, s_ek_run s_El_rows s_clj_39 rfl⟩
  · rcases Int.lt_or_le b.toInt 0 with h3 | h3
    · show s_Ek (s_rows 3 L xs) 1299 s_e153.1 0 [(0, .ref 0), (1, .int 10), (2, .int b)] [] s_M0 _
      refine s_ek_bk 5 (P := 8) (ls' := [(0, .ref 0), (1, .int 10), (2, .int b)]) (st' := [.int 1]) (M' := s_M0) rfl ?_
      refine s_ek_call (ν := s_e173.1) (P := 11) (as := [.int 1]) (r := []) (fun _ => rfl) rfl ?_
      show s_Ek (s_rows 3 L xs) 1298 s_e173.1 0 [(0, .int 1)] [] s_M0 _
      refine s_ek_bk 7 (P := 14) (ls' := [(0, .int 1)]) (st' := [.int 1]) (M' := s_M0) rfl ?_
      refine s_ek_ret (o := some (.int 1)) (fun _ => rfl) ?_
      show s_Ek (s_rows 3 L xs) 1299 s_e153.1 11 [(0, .ref 0), (1, .int 10), (2, .int b)] [.int 1] s_M0 _
      refine s_ek_bk 4 (P := 18) (ls' := [(0, .ref 0), (1, .int 10), (2, .int b)]) (st' := [.int 0]) (M' := s_M0) rfl ?_
      refine s_ek_call (ν := s_e173.1) (P := 21) (as := [.int 0]) (r := []) (fun _ => rfl) rfl ?_
      show s_Ek (s_rows 3 L xs) 1298 s_e173.1 0 [(0, .int 0)] [] s_M0 _
      refine s_ek_bk 7 (P := 14) (ls' := [(0, .int 0)]) (st' := [.int 1]) (M' := s_M0) rfl ?_
      refine s_ek_ret (o := some (.int 1)) (fun _ => rfl) ?_
      show s_Ek (s_rows 3 L xs) 1299 s_e153.1 21 [(0, .ref 0), (1, .int 10), (2, .int b)] [.int 1] s_M0 _
      refine s_ek_bk 2 (P := 25) (ls' := [(0, .ref 0), (1, .int 10), (2, .int b)]) (st' := [.int b]) (M' := s_M0) rfl ?_
      refine s_ek_call (ν := s_e174.1) (P := 28) (as := [.int b]) (r := []) (fun _ => rfl) rfl ?_
      show s_Ek (s_rows 3 L xs) 1298 s_e174.1 0 [(0, .int b)] [] s_M0 _
      refine s_ek_bk 1 (P := 1) (ls' := [(0, .int b)]) (st' := [.int b]) (M' := s_M0) rfl ?_
      refine s_ek_if1 (T := 9) rfl rfl (fun h5 => ?_) (fun h5 => ?_)
      · replace h5 : b.toInt = 0 := h5
        omega
      · replace h5 : ¬ (b.toInt = 0) := h5
        replace h5 : ¬ b.toInt = 0 := by omega
        refine s_ek_bk 2 (P := 6) (ls' := [(0, .int b)]) (st' := [.int 1, .int b]) (M' := s_M0) rfl ?_
        refine s_ek_if2 (T := 13) rfl rfl (fun h6 => ?_) (fun h6 => ?_)
        · replace h6 : ¬ b.toInt = 1 := h6
          refine s_ek_bk 1 (P := 14) (ls' := [(0, .int b)]) (st' := [.int 0]) (M' := s_M0) rfl ?_
          refine s_ek_ret (o := some (.int 0)) (fun _ => rfl) ?_
          show s_Ek (s_rows 3 L xs) 1299 s_e153.1 28 [(0, .ref 0), (1, .int 10), (2, .int b)] [.int 0] s_M0 _
          refine s_ek_bk 2 (P := 32) (ls' := [(0, .ref 0), (1, .int 10), (2, .int b)]) (st' := [.int (-1)]) (M' := s_M0) rfl ?_
          refine s_ek_ret (o := some (.int (-1))) (fun _ => rfl) ?_
          refine ⟨(-1), rfl, ?_⟩
          show s_Ek (s_rows 3 L xs) 1299 s_e257.1 0 [(0, .ref 151), (1, .int 10), (2, .int b)] [] s_M0 _
          refine s_ek_bk 15 (P := 23) (ls' := [(0, .ref 151), (1, .int 10), (2, .int b)]) (st' := [.int 1, .int 0, .int b]) (M' := s_M0) rfl ?_
          refine s_ek_call (ν := s_e181.1) (P := 26) (as := [.int b, .int 0, .int 1]) (r := []) (fun _ => rfl) rfl ?_
          show s_Ek (s_rows 3 L xs) 1298 s_e181.1 0 [(0, .int b), (1, .int 0), (2, .int 1)] [] s_M0 _
          refine s_ek_bk 2 (P := 2) (ls' := [(0, .int b), (1, .int 0), (2, .int 1)]) (st' := [.int 0, .int b]) (M' := s_M0) rfl ?_
          refine s_ek_if2 (T := 14) rfl rfl (fun h7 => ?_) (fun h7 => ?_)
          · replace h7 : b.toInt < 0 := h7
            refine s_ek_bk 1 (P := 15) (ls' := [(0, .int b), (1, .int 0), (2, .int 1)]) (st' := [.int 0]) (M' := s_M0) rfl ?_
            refine s_ek_ret (o := some (.int 0)) (fun _ => rfl) ?_
            show s_Ek (s_rows 3 L xs) 1299 s_e257.1 26 [(0, .ref 151), (1, .int 10), (2, .int b)] [.int 0] s_M0 _
            refine s_ek_bk 2 (P := 30) (ls' := [(0, .ref 151), (1, .int 10), (2, .int b)]) (st' := [.int (-1)]) (M' := s_M0) rfl ?_
            refine s_ek_ret (o := some (.int (-1))) (fun _ => rfl) ?_
            exact rfl
          · replace h7 : ¬ (b.toInt < 0) := h7
            replace h7 : 0 ≤ b.toInt := by omega
            omega
        · replace h6 : ¬ (¬ b.toInt = 1) := h6
          replace h6 : b.toInt = 1 := by omega
          omega
    rcases Int.lt_or_le 1 b.toInt with h4 | h4
    · show s_Ek (s_rows 3 L xs) 1299 s_e153.1 0 [(0, .ref 0), (1, .int 10), (2, .int b)] [] s_M0 _
      refine s_ek_bk 5 (P := 8) (ls' := [(0, .ref 0), (1, .int 10), (2, .int b)]) (st' := [.int 1]) (M' := s_M0) rfl ?_
      refine s_ek_call (ν := s_e173.1) (P := 11) (as := [.int 1]) (r := []) (fun _ => rfl) rfl ?_
      show s_Ek (s_rows 3 L xs) 1298 s_e173.1 0 [(0, .int 1)] [] s_M0 _
      refine s_ek_bk 7 (P := 14) (ls' := [(0, .int 1)]) (st' := [.int 1]) (M' := s_M0) rfl ?_
      refine s_ek_ret (o := some (.int 1)) (fun _ => rfl) ?_
      show s_Ek (s_rows 3 L xs) 1299 s_e153.1 11 [(0, .ref 0), (1, .int 10), (2, .int b)] [.int 1] s_M0 _
      refine s_ek_bk 4 (P := 18) (ls' := [(0, .ref 0), (1, .int 10), (2, .int b)]) (st' := [.int 0]) (M' := s_M0) rfl ?_
      refine s_ek_call (ν := s_e173.1) (P := 21) (as := [.int 0]) (r := []) (fun _ => rfl) rfl ?_
      show s_Ek (s_rows 3 L xs) 1298 s_e173.1 0 [(0, .int 0)] [] s_M0 _
      refine s_ek_bk 7 (P := 14) (ls' := [(0, .int 0)]) (st' := [.int 1]) (M' := s_M0) rfl ?_
      refine s_ek_ret (o := some (.int 1)) (fun _ => rfl) ?_
      show s_Ek (s_rows 3 L xs) 1299 s_e153.1 21 [(0, .ref 0), (1, .int 10), (2, .int b)] [.int 1] s_M0 _
      refine s_ek_bk 2 (P := 25) (ls' := [(0, .ref 0), (1, .int 10), (2, .int b)]) (st' := [.int b]) (M' := s_M0) rfl ?_
      refine s_ek_call (ν := s_e174.1) (P := 28) (as := [.int b]) (r := []) (fun _ => rfl) rfl ?_
      show s_Ek (s_rows 3 L xs) 1298 s_e174.1 0 [(0, .int b)] [] s_M0 _
      refine s_ek_bk 1 (P := 1) (ls' := [(0, .int b)]) (st' := [.int b]) (M' := s_M0) rfl ?_
      refine s_ek_if1 (T := 9) rfl rfl (fun h5 => ?_) (fun h5 => ?_)
      · replace h5 : b.toInt = 0 := h5
        omega
      · replace h5 : ¬ (b.toInt = 0) := h5
        replace h5 : ¬ b.toInt = 0 := by omega
        refine s_ek_bk 2 (P := 6) (ls' := [(0, .int b)]) (st' := [.int 1, .int b]) (M' := s_M0) rfl ?_
        refine s_ek_if2 (T := 13) rfl rfl (fun h6 => ?_) (fun h6 => ?_)
        · replace h6 : ¬ b.toInt = 1 := h6
          refine s_ek_bk 1 (P := 14) (ls' := [(0, .int b)]) (st' := [.int 0]) (M' := s_M0) rfl ?_
          refine s_ek_ret (o := some (.int 0)) (fun _ => rfl) ?_
          show s_Ek (s_rows 3 L xs) 1299 s_e153.1 28 [(0, .ref 0), (1, .int 10), (2, .int b)] [.int 0] s_M0 _
          refine s_ek_bk 2 (P := 32) (ls' := [(0, .ref 0), (1, .int 10), (2, .int b)]) (st' := [.int (-1)]) (M' := s_M0) rfl ?_
          refine s_ek_ret (o := some (.int (-1))) (fun _ => rfl) ?_
          refine ⟨(-1), rfl, ?_⟩
          show s_Ek (s_rows 3 L xs) 1299 s_e257.1 0 [(0, .ref 151), (1, .int 10), (2, .int b)] [] s_M0 _
          refine s_ek_bk 15 (P := 23) (ls' := [(0, .ref 151), (1, .int 10), (2, .int b)]) (st' := [.int 1, .int 0, .int b]) (M' := s_M0) rfl ?_
          refine s_ek_call (ν := s_e181.1) (P := 26) (as := [.int b, .int 0, .int 1]) (r := []) (fun _ => rfl) rfl ?_
          show s_Ek (s_rows 3 L xs) 1298 s_e181.1 0 [(0, .int b), (1, .int 0), (2, .int 1)] [] s_M0 _
          refine s_ek_bk 2 (P := 2) (ls' := [(0, .int b), (1, .int 0), (2, .int 1)]) (st' := [.int 0, .int b]) (M' := s_M0) rfl ?_
          refine s_ek_if2 (T := 14) rfl rfl (fun h7 => ?_) (fun h7 => ?_)
          · replace h7 : b.toInt < 0 := h7
            omega
          · replace h7 : ¬ (b.toInt < 0) := h7
            replace h7 : 0 ≤ b.toInt := by omega
            refine s_ek_bk 2 (P := 7) (ls' := [(0, .int b), (1, .int 0), (2, .int 1)]) (st' := [.int 1, .int b]) (M' := s_M0) rfl ?_
            refine s_ek_if2 (T := 14) rfl rfl (fun h8 => ?_) (fun h8 => ?_)
            · replace h8 : 1 < b.toInt := h8
              refine s_ek_bk 1 (P := 15) (ls' := [(0, .int b), (1, .int 0), (2, .int 1)]) (st' := [.int 0]) (M' := s_M0) rfl ?_
              refine s_ek_ret (o := some (.int 0)) (fun _ => rfl) ?_
              show s_Ek (s_rows 3 L xs) 1299 s_e257.1 26 [(0, .ref 151), (1, .int 10), (2, .int b)] [.int 0] s_M0 _
              refine s_ek_bk 2 (P := 30) (ls' := [(0, .ref 151), (1, .int 10), (2, .int b)]) (st' := [.int (-1)]) (M' := s_M0) rfl ?_
              refine s_ek_ret (o := some (.int (-1))) (fun _ => rfl) ?_
              exact rfl
            · replace h8 : ¬ (1 < b.toInt) := h8
              replace h8 : b.toInt ≤ 1 := by omega
              omega
        · replace h6 : ¬ (¬ b.toInt = 1) := h6
          replace h6 : b.toInt = 1 := by omega
          omega
    rcases s_rg_0_1 h3 h4 with rfl | rfl
    · exact s_ek_run s_El_rows s_clj_40 ⟨0, rfl, s_ek_run s_El_rows s_clj_41 rfl⟩
    · exact s_ek_run s_El_rows s_clj_42 ⟨(-2), rfl, s_ek_run s_El_rows s_clj_43 rfl⟩
  · rcases Int.lt_or_le b.toInt 0 with h3 | h3
    · show s_Ek (s_rows 3 L xs) 1299 s_e153.1 0 [(0, .ref 0), (1, .int 11), (2, .int b)] [] s_M0 _
      refine s_ek_bk 5 (P := 8) (ls' := [(0, .ref 0), (1, .int 11), (2, .int b)]) (st' := [.int 1]) (M' := s_M0) rfl ?_
      refine s_ek_call (ν := s_e173.1) (P := 11) (as := [.int 1]) (r := []) (fun _ => rfl) rfl ?_
      show s_Ek (s_rows 3 L xs) 1298 s_e173.1 0 [(0, .int 1)] [] s_M0 _
      refine s_ek_bk 7 (P := 14) (ls' := [(0, .int 1)]) (st' := [.int 1]) (M' := s_M0) rfl ?_
      refine s_ek_ret (o := some (.int 1)) (fun _ => rfl) ?_
      show s_Ek (s_rows 3 L xs) 1299 s_e153.1 11 [(0, .ref 0), (1, .int 11), (2, .int b)] [.int 1] s_M0 _
      refine s_ek_bk 4 (P := 18) (ls' := [(0, .ref 0), (1, .int 11), (2, .int b)]) (st' := [.int 1]) (M' := s_M0) rfl ?_
      refine s_ek_call (ν := s_e173.1) (P := 21) (as := [.int 1]) (r := []) (fun _ => rfl) rfl ?_
      show s_Ek (s_rows 3 L xs) 1298 s_e173.1 0 [(0, .int 1)] [] s_M0 _
      refine s_ek_bk 7 (P := 14) (ls' := [(0, .int 1)]) (st' := [.int 1]) (M' := s_M0) rfl ?_
      refine s_ek_ret (o := some (.int 1)) (fun _ => rfl) ?_
      show s_Ek (s_rows 3 L xs) 1299 s_e153.1 21 [(0, .ref 0), (1, .int 11), (2, .int b)] [.int 1] s_M0 _
      refine s_ek_bk 2 (P := 25) (ls' := [(0, .ref 0), (1, .int 11), (2, .int b)]) (st' := [.int b]) (M' := s_M0) rfl ?_
      refine s_ek_call (ν := s_e174.1) (P := 28) (as := [.int b]) (r := []) (fun _ => rfl) rfl ?_
      show s_Ek (s_rows 3 L xs) 1298 s_e174.1 0 [(0, .int b)] [] s_M0 _
      refine s_ek_bk 1 (P := 1) (ls' := [(0, .int b)]) (st' := [.int b]) (M' := s_M0) rfl ?_
      refine s_ek_if1 (T := 9) rfl rfl (fun h5 => ?_) (fun h5 => ?_)
      · replace h5 : b.toInt = 0 := h5
        omega
      · replace h5 : ¬ (b.toInt = 0) := h5
        replace h5 : ¬ b.toInt = 0 := by omega
        refine s_ek_bk 2 (P := 6) (ls' := [(0, .int b)]) (st' := [.int 1, .int b]) (M' := s_M0) rfl ?_
        refine s_ek_if2 (T := 13) rfl rfl (fun h6 => ?_) (fun h6 => ?_)
        · replace h6 : ¬ b.toInt = 1 := h6
          refine s_ek_bk 1 (P := 14) (ls' := [(0, .int b)]) (st' := [.int 0]) (M' := s_M0) rfl ?_
          refine s_ek_ret (o := some (.int 0)) (fun _ => rfl) ?_
          show s_Ek (s_rows 3 L xs) 1299 s_e153.1 28 [(0, .ref 0), (1, .int 11), (2, .int b)] [.int 0] s_M0 _
          refine s_ek_bk 2 (P := 32) (ls' := [(0, .ref 0), (1, .int 11), (2, .int b)]) (st' := [.int (-1)]) (M' := s_M0) rfl ?_
          refine s_ek_ret (o := some (.int (-1))) (fun _ => rfl) ?_
          refine ⟨(-1), rfl, ?_⟩
          show s_Ek (s_rows 3 L xs) 1299 s_e257.1 0 [(0, .ref 151), (1, .int 11), (2, .int b)] [] s_M0 _
          refine s_ek_bk 15 (P := 23) (ls' := [(0, .ref 151), (1, .int 11), (2, .int b)]) (st' := [.int 1, .int 0, .int b]) (M' := s_M0) rfl ?_
          refine s_ek_call (ν := s_e181.1) (P := 26) (as := [.int b, .int 0, .int 1]) (r := []) (fun _ => rfl) rfl ?_
          show s_Ek (s_rows 3 L xs) 1298 s_e181.1 0 [(0, .int b), (1, .int 0), (2, .int 1)] [] s_M0 _
          refine s_ek_bk 2 (P := 2) (ls' := [(0, .int b), (1, .int 0), (2, .int 1)]) (st' := [.int 0, .int b]) (M' := s_M0) rfl ?_
          refine s_ek_if2 (T := 14) rfl rfl (fun h7 => ?_) (fun h7 => ?_)
          · replace h7 : b.toInt < 0 := h7
            refine s_ek_bk 1 (P := 15) (ls' := [(0, .int b), (1, .int 0), (2, .int 1)]) (st' := [.int 0]) (M' := s_M0) rfl ?_
            refine s_ek_ret (o := some (.int 0)) (fun _ => rfl) ?_
            show s_Ek (s_rows 3 L xs) 1299 s_e257.1 26 [(0, .ref 151), (1, .int 11), (2, .int b)] [.int 0] s_M0 _
            refine s_ek_bk 2 (P := 30) (ls' := [(0, .ref 151), (1, .int 11), (2, .int b)]) (st' := [.int (-1)]) (M' := s_M0) rfl ?_
            refine s_ek_ret (o := some (.int (-1))) (fun _ => rfl) ?_
            exact rfl
          · replace h7 : ¬ (b.toInt < 0) := h7
            replace h7 : 0 ≤ b.toInt := by omega
            omega
        · replace h6 : ¬ (¬ b.toInt = 1) := h6
          replace h6 : b.toInt = 1 := by omega
          omega
    rcases Int.lt_or_le 1 b.toInt with h4 | h4
    · show s_Ek (s_rows 3 L xs) 1299 s_e153.1 0 [(0, .ref 0), (1, .int 11), (2, .int b)] [] s_M0 _
      refine s_ek_bk 5 (P := 8) (ls' := [(0, .ref 0), (1, .int 11), (2, .int b)]) (st' := [.int 1]) (M' := s_M0) rfl ?_
      refine s_ek_call (ν := s_e173.1) (P := 11) (as := [.int 1]) (r := []) (fun _ => rfl) rfl ?_
      show s_Ek (s_rows 3 L xs) 1298 s_e173.1 0 [(0, .int 1)] [] s_M0 _
      refine s_ek_bk 7 (P := 14) (ls' := [(0, .int 1)]) (st' := [.int 1]) (M' := s_M0) rfl ?_
      refine s_ek_ret (o := some (.int 1)) (fun _ => rfl) ?_
      show s_Ek (s_rows 3 L xs) 1299 s_e153.1 11 [(0, .ref 0), (1, .int 11), (2, .int b)] [.int 1] s_M0 _
      refine s_ek_bk 4 (P := 18) (ls' := [(0, .ref 0), (1, .int 11), (2, .int b)]) (st' := [.int 1]) (M' := s_M0) rfl ?_
      refine s_ek_call (ν := s_e173.1) (P := 21) (as := [.int 1]) (r := []) (fun _ => rfl) rfl ?_
      show s_Ek (s_rows 3 L xs) 1298 s_e173.1 0 [(0, .int 1)] [] s_M0 _
      refine s_ek_bk 7 (P := 14) (ls' := [(0, .int 1)]) (st' := [.int 1]) (M' := s_M0) rfl ?_
      refine s_ek_ret (o := some (.int 1)) (fun _ => rfl) ?_
      show s_Ek (s_rows 3 L xs) 1299 s_e153.1 21 [(0, .ref 0), (1, .int 11), (2, .int b)] [.int 1] s_M0 _
      refine s_ek_bk 2 (P := 25) (ls' := [(0, .ref 0), (1, .int 11), (2, .int b)]) (st' := [.int b]) (M' := s_M0) rfl ?_
      refine s_ek_call (ν := s_e174.1) (P := 28) (as := [.int b]) (r := []) (fun _ => rfl) rfl ?_
      show s_Ek (s_rows 3 L xs) 1298 s_e174.1 0 [(0, .int b)] [] s_M0 _
      refine s_ek_bk 1 (P := 1) (ls' := [(0, .int b)]) (st' := [.int b]) (M' := s_M0) rfl ?_
      refine s_ek_if1 (T := 9) rfl rfl (fun h5 => ?_) (fun h5 => ?_)
      · replace h5 : b.toInt = 0 := h5
        omega
      · replace h5 : ¬ (b.toInt = 0) := h5
        replace h5 : ¬ b.toInt = 0 := by omega
        refine s_ek_bk 2 (P := 6) (ls' := [(0, .int b)]) (st' := [.int 1, .int b]) (M' := s_M0) rfl ?_
        refine s_ek_if2 (T := 13) rfl rfl (fun h6 => ?_) (fun h6 => ?_)
        · replace h6 : ¬ b.toInt = 1 := h6
          refine s_ek_bk 1 (P := 14) (ls' := [(0, .int b)]) (st' := [.int 0]) (M' := s_M0) rfl ?_
          refine s_ek_ret (o := some (.int 0)) (fun _ => rfl) ?_
          show s_Ek (s_rows 3 L xs) 1299 s_e153.1 28 [(0, .ref 0), (1, .int 11), (2, .int b)] [.int 0] s_M0 _
          refine s_ek_bk 2 (P := 32) (ls' := [(0, .ref 0), (1, .int 11), (2, .int b)]) (st' := [.int (-1)]) (M' := s_M0) rfl ?_
          refine s_ek_ret (o := some (.int (-1))) (fun _ => rfl) ?_
          refine ⟨(-1), rfl, ?_⟩
          show s_Ek (s_rows 3 L xs) 1299 s_e257.1 0 [(0, .ref 151), (1, .int 11), (2, .int b)] [] s_M0 _
          refine s_ek_bk 15 (P := 23) (ls' := [(0, .ref 151), (1, .int 11), (2, .int b)]) (st' := [.int 1, .int 0, .int b]) (M' := s_M0) rfl ?_
          refine s_ek_call (ν := s_e181.1) (P := 26) (as := [.int b, .int 0, .int 1]) (r := []) (fun _ => rfl) rfl ?_
          show s_Ek (s_rows 3 L xs) 1298 s_e181.1 0 [(0, .int b), (1, .int 0), (2, .int 1)] [] s_M0 _
          refine s_ek_bk 2 (P := 2) (ls' := [(0, .int b), (1, .int 0), (2, .int 1)]) (st' := [.int 0, .int b]) (M' := s_M0) rfl ?_
          refine s_ek_if2 (T := 14) rfl rfl (fun h7 => ?_) (fun h7 => ?_)
          · replace h7 : b.toInt < 0 := h7
            omega
          · replace h7 : ¬ (b.toInt < 0) := h7
            replace h7 : 0 ≤ b.toInt := by omega
            refine s_ek_bk 2 (P := 7) (ls' := [(0, .int b), (1, .int 0), (2, .int 1)]) (st' := [.int 1, .int b]) (M' := s_M0) rfl ?_
            refine s_ek_if2 (T := 14) rfl rfl (fun h8 => ?_) (fun h8 => ?_)
            · replace h8 : 1 < b.toInt := h8
              refine s_ek_bk 1 (P := 15) (ls' := [(0, .int b), (1, .int 0), (2, .int 1)]) (st' := [.int 0]) (M' := s_M0) rfl ?_
              refine s_ek_ret (o := some (.int 0)) (fun _ => rfl) ?_
              show s_Ek (s_rows 3 L xs) 1299 s_e257.1 26 [(0, .ref 151), (1, .int 11), (2, .int b)] [.int 0] s_M0 _
              refine s_ek_bk 2 (P := 30) (ls' := [(0, .ref 151), (1, .int 11), (2, .int b)]) (st' := [.int (-1)]) (M' := s_M0) rfl ?_
              refine s_ek_ret (o := some (.int (-1))) (fun _ => rfl) ?_
              exact rfl
            · replace h8 : ¬ (1 < b.toInt) := h8
              replace h8 : b.toInt ≤ 1 := by omega
              omega
        · replace h6 : ¬ (¬ b.toInt = 1) := h6
          replace h6 : b.toInt = 1 := by omega
          omega
    rcases s_rg_0_1 h3 h4 with rfl | rfl
    · exact s_ek_run s_El_rows s_clj_44 ⟨0, rfl, s_ek_run s_El_rows s_clj_45 rfl⟩
    · exact s_ek_run s_El_rows s_clj_46 ⟨(-2), rfl, s_ek_run s_El_rows s_clj_47 rfl⟩
  · rcases Int.lt_or_le b.toInt 0 with h3 | h3
    · show s_Ek (s_rows 3 L xs) 1299 s_e153.1 0 [(0, .ref 0), (1, .int 12), (2, .int b)] [] s_M0 _
      refine s_ek_bk 5 (P := 8) (ls' := [(0, .ref 0), (1, .int 12), (2, .int b)]) (st' := [.int 1]) (M' := s_M0) rfl ?_
      refine s_ek_call (ν := s_e173.1) (P := 11) (as := [.int 1]) (r := []) (fun _ => rfl) rfl ?_
      show s_Ek (s_rows 3 L xs) 1298 s_e173.1 0 [(0, .int 1)] [] s_M0 _
      refine s_ek_bk 7 (P := 14) (ls' := [(0, .int 1)]) (st' := [.int 1]) (M' := s_M0) rfl ?_
      refine s_ek_ret (o := some (.int 1)) (fun _ => rfl) ?_
      show s_Ek (s_rows 3 L xs) 1299 s_e153.1 11 [(0, .ref 0), (1, .int 12), (2, .int b)] [.int 1] s_M0 _
      refine s_ek_bk 4 (P := 18) (ls' := [(0, .ref 0), (1, .int 12), (2, .int b)]) (st' := [.int 2]) (M' := s_M0) rfl ?_
      refine s_ek_call (ν := s_e173.1) (P := 21) (as := [.int 2]) (r := []) (fun _ => rfl) rfl ?_
      show s_Ek (s_rows 3 L xs) 1298 s_e173.1 0 [(0, .int 2)] [] s_M0 _
      refine s_ek_bk 7 (P := 14) (ls' := [(0, .int 2)]) (st' := [.int 1]) (M' := s_M0) rfl ?_
      refine s_ek_ret (o := some (.int 1)) (fun _ => rfl) ?_
      show s_Ek (s_rows 3 L xs) 1299 s_e153.1 21 [(0, .ref 0), (1, .int 12), (2, .int b)] [.int 1] s_M0 _
      refine s_ek_bk 2 (P := 25) (ls' := [(0, .ref 0), (1, .int 12), (2, .int b)]) (st' := [.int b]) (M' := s_M0) rfl ?_
      refine s_ek_call (ν := s_e174.1) (P := 28) (as := [.int b]) (r := []) (fun _ => rfl) rfl ?_
      show s_Ek (s_rows 3 L xs) 1298 s_e174.1 0 [(0, .int b)] [] s_M0 _
      refine s_ek_bk 1 (P := 1) (ls' := [(0, .int b)]) (st' := [.int b]) (M' := s_M0) rfl ?_
      refine s_ek_if1 (T := 9) rfl rfl (fun h5 => ?_) (fun h5 => ?_)
      · replace h5 : b.toInt = 0 := h5
        omega
      · replace h5 : ¬ (b.toInt = 0) := h5
        replace h5 : ¬ b.toInt = 0 := by omega
        refine s_ek_bk 2 (P := 6) (ls' := [(0, .int b)]) (st' := [.int 1, .int b]) (M' := s_M0) rfl ?_
        refine s_ek_if2 (T := 13) rfl rfl (fun h6 => ?_) (fun h6 => ?_)
        · replace h6 : ¬ b.toInt = 1 := h6
          refine s_ek_bk 1 (P := 14) (ls' := [(0, .int b)]) (st' := [.int 0]) (M' := s_M0) rfl ?_
          refine s_ek_ret (o := some (.int 0)) (fun _ => rfl) ?_
          show s_Ek (s_rows 3 L xs) 1299 s_e153.1 28 [(0, .ref 0), (1, .int 12), (2, .int b)] [.int 0] s_M0 _
          refine s_ek_bk 2 (P := 32) (ls' := [(0, .ref 0), (1, .int 12), (2, .int b)]) (st' := [.int (-1)]) (M' := s_M0) rfl ?_
          refine s_ek_ret (o := some (.int (-1))) (fun _ => rfl) ?_
          refine ⟨(-1), rfl, ?_⟩
          show s_Ek (s_rows 3 L xs) 1299 s_e257.1 0 [(0, .ref 151), (1, .int 12), (2, .int b)] [] s_M0 _
          refine s_ek_bk 15 (P := 23) (ls' := [(0, .ref 151), (1, .int 12), (2, .int b)]) (st' := [.int 1, .int 0, .int b]) (M' := s_M0) rfl ?_
          refine s_ek_call (ν := s_e181.1) (P := 26) (as := [.int b, .int 0, .int 1]) (r := []) (fun _ => rfl) rfl ?_
          show s_Ek (s_rows 3 L xs) 1298 s_e181.1 0 [(0, .int b), (1, .int 0), (2, .int 1)] [] s_M0 _
          refine s_ek_bk 2 (P := 2) (ls' := [(0, .int b), (1, .int 0), (2, .int 1)]) (st' := [.int 0, .int b]) (M' := s_M0) rfl ?_
          refine s_ek_if2 (T := 14) rfl rfl (fun h7 => ?_) (fun h7 => ?_)
          · replace h7 : b.toInt < 0 := h7
            refine s_ek_bk 1 (P := 15) (ls' := [(0, .int b), (1, .int 0), (2, .int 1)]) (st' := [.int 0]) (M' := s_M0) rfl ?_
            refine s_ek_ret (o := some (.int 0)) (fun _ => rfl) ?_
            show s_Ek (s_rows 3 L xs) 1299 s_e257.1 26 [(0, .ref 151), (1, .int 12), (2, .int b)] [.int 0] s_M0 _
            refine s_ek_bk 2 (P := 30) (ls' := [(0, .ref 151), (1, .int 12), (2, .int b)]) (st' := [.int (-1)]) (M' := s_M0) rfl ?_
            refine s_ek_ret (o := some (.int (-1))) (fun _ => rfl) ?_
            exact rfl
          · replace h7 : ¬ (b.toInt < 0) := h7
            replace h7 : 0 ≤ b.toInt := by omega
            omega
        · replace h6 : ¬ (¬ b.toInt = 1) := h6
          replace h6 : b.toInt = 1 := by omega
          omega
    rcases Int.lt_or_le 1 b.toInt with h4 | h4
    · show s_Ek (s_rows 3 L xs) 1299 s_e153.1 0 [(0, .ref 0), (1, .int 12), (2, .int b)] [] s_M0 _
      refine s_ek_bk 5 (P := 8) (ls' := [(0, .ref 0), (1, .int 12), (2, .int b)]) (st' := [.int 1]) (M' := s_M0) rfl ?_
      refine s_ek_call (ν := s_e173.1) (P := 11) (as := [.int 1]) (r := []) (fun _ => rfl) rfl ?_
      show s_Ek (s_rows 3 L xs) 1298 s_e173.1 0 [(0, .int 1)] [] s_M0 _
      refine s_ek_bk 7 (P := 14) (ls' := [(0, .int 1)]) (st' := [.int 1]) (M' := s_M0) rfl ?_
      refine s_ek_ret (o := some (.int 1)) (fun _ => rfl) ?_
      show s_Ek (s_rows 3 L xs) 1299 s_e153.1 11 [(0, .ref 0), (1, .int 12), (2, .int b)] [.int 1] s_M0 _
      refine s_ek_bk 4 (P := 18) (ls' := [(0, .ref 0), (1, .int 12), (2, .int b)]) (st' := [.int 2]) (M' := s_M0) rfl ?_
      refine s_ek_call (ν := s_e173.1) (P := 21) (as := [.int 2]) (r := []) (fun _ => rfl) rfl ?_
      show s_Ek (s_rows 3 L xs) 1298 s_e173.1 0 [(0, .int 2)] [] s_M0 _
      refine s_ek_bk 7 (P := 14) (ls' := [(0, .int 2)]) (st' := [.int 1]) (M' := s_M0) rfl ?_
      refine s_ek_ret (o := some (.int 1)) (fun _ => rfl) ?_
      show s_Ek (s_rows 3 L xs) 1299 s_e153.1 21 [(0, .ref 0), (1, .int 12), (2, .int b)] [.int 1] s_M0 _
      refine s_ek_bk 2 (P := 25) (ls' := [(0, .ref 0), (1, .int 12), (2, .int b)]) (st' := [.int b]) (M' := s_M0) rfl ?_
      refine s_ek_call (ν := s_e174.1) (P := 28) (as := [.int b]) (r := []) (fun _ => rfl) rfl ?_
      show s_Ek (s_rows 3 L xs) 1298 s_e174.1 0 [(0, .int b)] [] s_M0 _
      refine s_ek_bk 1 (P := 1) (ls' := [(0, .int b)]) (st' := [.int b]) (M' := s_M0) rfl ?_
      refine s_ek_if1 (T := 9) rfl rfl (fun h5 => ?_) (fun h5 => ?_)
      · replace h5 : b.toInt = 0 := h5
        omega
      · replace h5 : ¬ (b.toInt = 0) := h5
        replace h5 : ¬ b.toInt = 0 := by omega
        refine s_ek_bk 2 (P := 6) (ls' := [(0, .int b)]) (st' := [.int 1, .int b]) (M' := s_M0) rfl ?_
        refine s_ek_if2 (T := 13) rfl rfl (fun h6 => ?_) (fun h6 => ?_)
        · replace h6 : ¬ b.toInt = 1 := h6
          refine s_ek_bk 1 (P := 14) (ls' := [(0, .int b)]) (st' := [.int 0]) (M' := s_M0) rfl ?_
          refine s_ek_ret (o := some (.int 0)) (fun _ => rfl) ?_
          show s_Ek (s_rows 3 L xs) 1299 s_e153.1 28 [(0, .ref 0), (1, .int 12), (2, .int b)] [.int 0] s_M0 _
          refine s_ek_bk 2 (P := 32) (ls' := [(0, .ref 0), (1, .int 12), (2, .int b)]) (st' := [.int (-1)]) (M' := s_M0) rfl ?_
          refine s_ek_ret (o := some (.int (-1))) (fun _ => rfl) ?_
          refine ⟨(-1), rfl, ?_⟩
          show s_Ek (s_rows 3 L xs) 1299 s_e257.1 0 [(0, .ref 151), (1, .int 12), (2, .int b)] [] s_M0 _
          refine s_ek_bk 15 (P := 23) (ls' := [(0, .ref 151), (1, .int 12), (2, .int b)]) (st' := [.int 1, .int 0, .int b]) (M' := s_M0) rfl ?_
          refine s_ek_call (ν := s_e181.1) (P := 26) (as := [.int b, .int 0, .int 1]) (r := []) (fun _ => rfl) rfl ?_
          show s_Ek (s_rows 3 L xs) 1298 s_e181.1 0 [(0, .int b), (1, .int 0), (2, .int 1)] [] s_M0 _
          refine s_ek_bk 2 (P := 2) (ls' := [(0, .int b), (1, .int 0), (2, .int 1)]) (st' := [.int 0, .int b]) (M' := s_M0) rfl ?_
          refine s_ek_if2 (T := 14) rfl rfl (fun h7 => ?_) (fun h7 => ?_)
          · replace h7 : b.toInt < 0 := h7
            omega
          · replace h7 : ¬ (b.toInt < 0) := h7
            replace h7 : 0 ≤ b.toInt := by omega
            refine s_ek_bk 2 (P := 7) (ls' := [(0, .int b), (1, .int 0), (2, .int 1)]) (st' := [.int 1, .int b]) (M' := s_M0) rfl ?_
            refine s_ek_if2 (T := 14) rfl rfl (fun h8 => ?_) (fun h8 => ?_)
            · replace h8 : 1 < b.toInt := h8
              refine s_ek_bk 1 (P := 15) (ls' := [(0, .int b), (1, .int 0), (2, .int 1)]) (st' := [.int 0]) (M' := s_M0) rfl ?_
              refine s_ek_ret (o := some (.int 0)) (fun _ => rfl) ?_
              show s_Ek (s_rows 3 L xs) 1299 s_e257.1 26 [(0, .ref 151), (1, .int 12), (2, .int b)] [.int 0] s_M0 _
              refine s_ek_bk 2 (P := 30) (ls' := [(0, .ref 151), (1, .int 12), (2, .int b)]) (st' := [.int (-1)]) (M' := s_M0) rfl ?_
              refine s_ek_ret (o := some (.int (-1))) (fun _ => rfl) ?_
              exact rfl
            · replace h8 : ¬ (1 < b.toInt) := h8
              replace h8 : b.toInt ≤ 1 := by omega
              omega
        · replace h6 : ¬ (¬ b.toInt = 1) := h6
          replace h6 : b.toInt = 1 := by omega
          omega
    rcases s_rg_0_1 h3 h4 with rfl | rfl
    · exact s_ek_run s_El_rows s_clj_48 ⟨0, rfl, s_ek_run s_El_rows s_clj_49 rfl⟩
    · exact s_ek_run s_El_rows s_clj_50 ⟨(-2), rfl, s_ek_run s_El_rows s_clj_51 rfl⟩
  · rcases Int.lt_or_le b.toInt 0 with h3 | h3
    · show s_Ek (s_rows 3 L xs) 1299 s_e153.1 0 [(0, .ref 0), (1, .int 13), (2, .int b)] [] s_M0 _
      refine s_ek_bk 5 (P := 8) (ls' := [(0, .ref 0), (1, .int 13), (2, .int b)]) (st' := [.int 1]) (M' := s_M0) rfl ?_
      refine s_ek_call (ν := s_e173.1) (P := 11) (as := [.int 1]) (r := []) (fun _ => rfl) rfl ?_
      show s_Ek (s_rows 3 L xs) 1298 s_e173.1 0 [(0, .int 1)] [] s_M0 _
      refine s_ek_bk 7 (P := 14) (ls' := [(0, .int 1)]) (st' := [.int 1]) (M' := s_M0) rfl ?_
      refine s_ek_ret (o := some (.int 1)) (fun _ => rfl) ?_
      show s_Ek (s_rows 3 L xs) 1299 s_e153.1 11 [(0, .ref 0), (1, .int 13), (2, .int b)] [.int 1] s_M0 _
      refine s_ek_bk 4 (P := 18) (ls' := [(0, .ref 0), (1, .int 13), (2, .int b)]) (st' := [.int 3]) (M' := s_M0) rfl ?_
      refine s_ek_call (ν := s_e173.1) (P := 21) (as := [.int 3]) (r := []) (fun _ => rfl) rfl ?_
      show s_Ek (s_rows 3 L xs) 1298 s_e173.1 0 [(0, .int 3)] [] s_M0 _
      refine s_ek_bk 7 (P := 14) (ls' := [(0, .int 3)]) (st' := [.int 1]) (M' := s_M0) rfl ?_
      refine s_ek_ret (o := some (.int 1)) (fun _ => rfl) ?_
      show s_Ek (s_rows 3 L xs) 1299 s_e153.1 21 [(0, .ref 0), (1, .int 13), (2, .int b)] [.int 1] s_M0 _
      refine s_ek_bk 2 (P := 25) (ls' := [(0, .ref 0), (1, .int 13), (2, .int b)]) (st' := [.int b]) (M' := s_M0) rfl ?_
      refine s_ek_call (ν := s_e174.1) (P := 28) (as := [.int b]) (r := []) (fun _ => rfl) rfl ?_
      show s_Ek (s_rows 3 L xs) 1298 s_e174.1 0 [(0, .int b)] [] s_M0 _
      refine s_ek_bk 1 (P := 1) (ls' := [(0, .int b)]) (st' := [.int b]) (M' := s_M0) rfl ?_
      refine s_ek_if1 (T := 9) rfl rfl (fun h5 => ?_) (fun h5 => ?_)
      · replace h5 : b.toInt = 0 := h5
        omega
      · replace h5 : ¬ (b.toInt = 0) := h5
        replace h5 : ¬ b.toInt = 0 := by omega
        refine s_ek_bk 2 (P := 6) (ls' := [(0, .int b)]) (st' := [.int 1, .int b]) (M' := s_M0) rfl ?_
        refine s_ek_if2 (T := 13) rfl rfl (fun h6 => ?_) (fun h6 => ?_)
        · replace h6 : ¬ b.toInt = 1 := h6
          refine s_ek_bk 1 (P := 14) (ls' := [(0, .int b)]) (st' := [.int 0]) (M' := s_M0) rfl ?_
          refine s_ek_ret (o := some (.int 0)) (fun _ => rfl) ?_
          show s_Ek (s_rows 3 L xs) 1299 s_e153.1 28 [(0, .ref 0), (1, .int 13), (2, .int b)] [.int 0] s_M0 _
          refine s_ek_bk 2 (P := 32) (ls' := [(0, .ref 0), (1, .int 13), (2, .int b)]) (st' := [.int (-1)]) (M' := s_M0) rfl ?_
          refine s_ek_ret (o := some (.int (-1))) (fun _ => rfl) ?_
          refine ⟨(-1), rfl, ?_⟩
          show s_Ek (s_rows 3 L xs) 1299 s_e257.1 0 [(0, .ref 151), (1, .int 13), (2, .int b)] [] s_M0 _
          refine s_ek_bk 15 (P := 23) (ls' := [(0, .ref 151), (1, .int 13), (2, .int b)]) (st' := [.int 1, .int 0, .int b]) (M' := s_M0) rfl ?_
          refine s_ek_call (ν := s_e181.1) (P := 26) (as := [.int b, .int 0, .int 1]) (r := []) (fun _ => rfl) rfl ?_
          show s_Ek (s_rows 3 L xs) 1298 s_e181.1 0 [(0, .int b), (1, .int 0), (2, .int 1)] [] s_M0 _
          refine s_ek_bk 2 (P := 2) (ls' := [(0, .int b), (1, .int 0), (2, .int 1)]) (st' := [.int 0, .int b]) (M' := s_M0) rfl ?_
          refine s_ek_if2 (T := 14) rfl rfl (fun h7 => ?_) (fun h7 => ?_)
          · replace h7 : b.toInt < 0 := h7
            refine s_ek_bk 1 (P := 15) (ls' := [(0, .int b), (1, .int 0), (2, .int 1)]) (st' := [.int 0]) (M' := s_M0) rfl ?_
            refine s_ek_ret (o := some (.int 0)) (fun _ => rfl) ?_
            show s_Ek (s_rows 3 L xs) 1299 s_e257.1 26 [(0, .ref 151), (1, .int 13), (2, .int b)] [.int 0] s_M0 _
            refine s_ek_bk 2 (P := 30) (ls' := [(0, .ref 151), (1, .int 13), (2, .int b)]) (st' := [.int (-1)]) (M' := s_M0) rfl ?_
            refine s_ek_ret (o := some (.int (-1))) (fun _ => rfl) ?_
            exact rfl
          · replace h7 : ¬ (b.toInt < 0) := h7
            replace h7 : 0 ≤ b.toInt := by omega
            omega
        · replace h6 : ¬ (¬ b.toInt = 1) := h6
          replace h6 : b.toInt = 1 := by omega
          omega
    rcases Int.lt_or_le 1 b.toInt with h4 | h4
    · show s_Ek (s_rows 3 L xs) 1299 s_e153.1 0 [(0, .ref 0), (1, .int 13), (2, .int b)] [] s_M0 _
      refine s_ek_bk 5 (P := 8) (ls' := [(0, .ref 0), (1, .int 13), (2, .int b)]) (st' := [.int 1]) (M' := s_M0) rfl ?_
      refine s_ek_call (ν := s_e173.1) (P := 11) (as := [.int 1]) (r := []) (fun _ => rfl) rfl ?_
      show s_Ek (s_rows 3 L xs) 1298 s_e173.1 0 [(0, .int 1)] [] s_M0 _
      refine s_ek_bk 7 (P := 14) (ls' := [(0, .int 1)]) (st' := [.int 1]) (M' := s_M0) rfl ?_
      refine s_ek_ret (o := some (.int 1)) (fun _ => rfl) ?_
      show s_Ek (s_rows 3 L xs) 1299 s_e153.1 11 [(0, .ref 0), (1, .int 13), (2, .int b)] [.int 1] s_M0 _
      refine s_ek_bk 4 (P := 18) (ls' := [(0, .ref 0), (1, .int 13), (2, .int b)]) (st' := [.int 3]) (M' := s_M0) rfl ?_
      refine s_ek_call (ν := s_e173.1) (P := 21) (as := [.int 3]) (r := []) (fun _ => rfl) rfl ?_
      show s_Ek (s_rows 3 L xs) 1298 s_e173.1 0 [(0, .int 3)] [] s_M0 _
      refine s_ek_bk 7 (P := 14) (ls' := [(0, .int 3)]) (st' := [.int 1]) (M' := s_M0) rfl ?_
      refine s_ek_ret (o := some (.int 1)) (fun _ => rfl) ?_
      show s_Ek (s_rows 3 L xs) 1299 s_e153.1 21 [(0, .ref 0), (1, .int 13), (2, .int b)] [.int 1] s_M0 _
      refine s_ek_bk 2 (P := 25) (ls' := [(0, .ref 0), (1, .int 13), (2, .int b)]) (st' := [.int b]) (M' := s_M0) rfl ?_
      refine s_ek_call (ν := s_e174.1) (P := 28) (as := [.int b]) (r := []) (fun _ => rfl) rfl ?_
      show s_Ek (s_rows 3 L xs) 1298 s_e174.1 0 [(0, .int b)] [] s_M0 _
      refine s_ek_bk 1 (P := 1) (ls' := [(0, .int b)]) (st' := [.int b]) (M' := s_M0) rfl ?_
      refine s_ek_if1 (T := 9) rfl rfl (fun h5 => ?_) (fun h5 => ?_)
      · replace h5 : b.toInt = 0 := h5
        omega
      · replace h5 : ¬ (b.toInt = 0) := h5
        replace h5 : ¬ b.toInt = 0 := by omega
        refine s_ek_bk 2 (P := 6) (ls' := [(0, .int b)]) (st' := [.int 1, .int b]) (M' := s_M0) rfl ?_
        refine s_ek_if2 (T := 13) rfl rfl (fun h6 => ?_) (fun h6 => ?_)
        · replace h6 : ¬ b.toInt = 1 := h6
          refine s_ek_bk 1 (P := 14) (ls' := [(0, .int b)]) (st' := [.int 0]) (M' := s_M0) rfl ?_
          refine s_ek_ret (o := some (.int 0)) (fun _ => rfl) ?_
          show s_Ek (s_rows 3 L xs) 1299 s_e153.1 28 [(0, .ref 0), (1, .int 13), (2, .int b)] [.int 0] s_M0 _
          refine s_ek_bk 2 (P := 32) (ls' := [(0, .ref 0), (1, .int 13), (2, .int b)]) (st' := [.int (-1)]) (M' := s_M0) rfl ?_
          refine s_ek_ret (o := some (.int (-1))) (fun _ => rfl) ?_
          refine ⟨(-1), rfl, ?_⟩
          show s_Ek (s_rows 3 L xs) 1299 s_e257.1 0 [(0, .ref 151), (1, .int 13), (2, .int b)] [] s_M0 _
          refine s_ek_bk 15 (P := 23) (ls' := [(0, .ref 151), (1, .int 13), (2, .int b)]) (st' := [.int 1, .int 0, .int b]) (M' := s_M0) rfl ?_
          refine s_ek_call (ν := s_e181.1) (P := 26) (as := [.int b, .int 0, .int 1]) (r := []) (fun _ => rfl) rfl ?_
          show s_Ek (s_rows 3 L xs) 1298 s_e181.1 0 [(0, .int b), (1, .int 0), (2, .int 1)] [] s_M0 _
          refine s_ek_bk 2 (P := 2) (ls' := [(0, .int b), (1, .int 0), (2, .int 1)]) (st' := [.int 0, .int b]) (M' := s_M0) rfl ?_
          refine s_ek_if2 (T := 14) rfl rfl (fun h7 => ?_) (fun h7 => ?_)
          · replace h7 : b.toInt < 0 := h7
            omega
          · replace h7 : ¬ (b.toInt < 0) := h7
            replace h7 : 0 ≤ b.toInt := by omega
            refine s_ek_bk 2 (P := 7) (ls' := [(0, .int b), (1, .int 0), (2, .int 1)]) (st' := [.int 1, .int b]) (M' := s_M0) rfl ?_
            refine s_ek_if2 (T := 14) rfl rfl (fun h8 => ?_) (fun h8 => ?_)
            · replace h8 : 1 < b.toInt := h8
              refine s_ek_bk 1 (P := 15) (ls' := [(0, .int b), (1, .int 0), (2, .int 1)]) (st' := [.int 0]) (M' := s_M0) rfl ?_
              refine s_ek_ret (o := some (.int 0)) (fun _ => rfl) ?_
              show s_Ek (s_rows 3 L xs) 1299 s_e257.1 26 [(0, .ref 151), (1, .int 13), (2, .int b)] [.int 0] s_M0 _
              refine s_ek_bk 2 (P := 30) (ls' := [(0, .ref 151), (1, .int 13), (2, .int b)]) (st' := [.int (-1)]) (M' := s_M0) rfl ?_
              refine s_ek_ret (o := some (.int (-1))) (fun _ => rfl) ?_
              exact rfl
            · replace h8 : ¬ (1 < b.toInt) := h8
              replace h8 : b.toInt ≤ 1 := by omega
              omega
        · replace h6 : ¬ (¬ b.toInt = 1) := h6
          replace h6 : b.toInt = 1 := by omega
          omega
    rcases s_rg_0_1 h3 h4 with rfl | rfl
    · exact s_ek_run s_El_rows s_clj_52 ⟨0, rfl, s_ek_run s_El_rows s_clj_53 rfl⟩
    · exact s_ek_run s_El_rows s_clj_54 ⟨(-2), rfl, s_ek_run s_El_rows s_clj_55 rfl⟩
  · rcases Int.lt_or_le b.toInt 0 with h3 | h3
    · show s_Ek (s_rows 3 L xs) 1299 s_e153.1 0 [(0, .ref 0), (1, .int 14), (2, .int b)] [] s_M0 _
      refine s_ek_bk 5 (P := 8) (ls' := [(0, .ref 0), (1, .int 14), (2, .int b)]) (st' := [.int 1]) (M' := s_M0) rfl ?_
      refine s_ek_call (ν := s_e173.1) (P := 11) (as := [.int 1]) (r := []) (fun _ => rfl) rfl ?_
      show s_Ek (s_rows 3 L xs) 1298 s_e173.1 0 [(0, .int 1)] [] s_M0 _
      refine s_ek_bk 7 (P := 14) (ls' := [(0, .int 1)]) (st' := [.int 1]) (M' := s_M0) rfl ?_
      refine s_ek_ret (o := some (.int 1)) (fun _ => rfl) ?_
      show s_Ek (s_rows 3 L xs) 1299 s_e153.1 11 [(0, .ref 0), (1, .int 14), (2, .int b)] [.int 1] s_M0 _
      refine s_ek_bk 4 (P := 18) (ls' := [(0, .ref 0), (1, .int 14), (2, .int b)]) (st' := [.int 4]) (M' := s_M0) rfl ?_
      refine s_ek_call (ν := s_e173.1) (P := 21) (as := [.int 4]) (r := []) (fun _ => rfl) rfl ?_
      show s_Ek (s_rows 3 L xs) 1298 s_e173.1 0 [(0, .int 4)] [] s_M0 _
      refine s_ek_bk 6 (P := 14) (ls' := [(0, .int 4)]) (st' := [.int 0]) (M' := s_M0) rfl ?_
      refine s_ek_ret (o := some (.int 0)) (fun _ => rfl) ?_
      show s_Ek (s_rows 3 L xs) 1299 s_e153.1 21 [(0, .ref 0), (1, .int 14), (2, .int b)] [.int 0] s_M0 _
      refine s_ek_bk 2 (P := 32) (ls' := [(0, .ref 0), (1, .int 14), (2, .int b)]) (st' := [.int (-1)]) (M' := s_M0) rfl ?_
      refine s_ek_ret (o := some (.int (-1))) (fun _ => rfl) ?_
      refine ⟨(-1), rfl, ?_⟩
      show s_Ek (s_rows 3 L xs) 1299 s_e257.1 0 [(0, .ref 151), (1, .int 14), (2, .int b)] [] s_M0 _
      refine s_ek_bk 13 (P := 30) (ls' := [(0, .ref 151), (1, .int 14), (2, .int b)]) (st' := [.int (-1)]) (M' := s_M0) rfl ?_
      refine s_ek_ret (o := some (.int (-1))) (fun _ => rfl) ?_
      exact rfl
    rcases Int.lt_or_le 1 b.toInt with h4 | h4
    · show s_Ek (s_rows 3 L xs) 1299 s_e153.1 0 [(0, .ref 0), (1, .int 14), (2, .int b)] [] s_M0 _
      refine s_ek_bk 5 (P := 8) (ls' := [(0, .ref 0), (1, .int 14), (2, .int b)]) (st' := [.int 1]) (M' := s_M0) rfl ?_
      refine s_ek_call (ν := s_e173.1) (P := 11) (as := [.int 1]) (r := []) (fun _ => rfl) rfl ?_
      show s_Ek (s_rows 3 L xs) 1298 s_e173.1 0 [(0, .int 1)] [] s_M0 _
      refine s_ek_bk 7 (P := 14) (ls' := [(0, .int 1)]) (st' := [.int 1]) (M' := s_M0) rfl ?_
      refine s_ek_ret (o := some (.int 1)) (fun _ => rfl) ?_
      show s_Ek (s_rows 3 L xs) 1299 s_e153.1 11 [(0, .ref 0), (1, .int 14), (2, .int b)] [.int 1] s_M0 _
      refine s_ek_bk 4 (P := 18) (ls' := [(0, .ref 0), (1, .int 14), (2, .int b)]) (st' := [.int 4]) (M' := s_M0) rfl ?_
      refine s_ek_call (ν := s_e173.1) (P := 21) (as := [.int 4]) (r := []) (fun _ => rfl) rfl ?_
      show s_Ek (s_rows 3 L xs) 1298 s_e173.1 0 [(0, .int 4)] [] s_M0 _
      refine s_ek_bk 6 (P := 14) (ls' := [(0, .int 4)]) (st' := [.int 0]) (M' := s_M0) rfl ?_
      refine s_ek_ret (o := some (.int 0)) (fun _ => rfl) ?_
      show s_Ek (s_rows 3 L xs) 1299 s_e153.1 21 [(0, .ref 0), (1, .int 14), (2, .int b)] [.int 0] s_M0 _
      refine s_ek_bk 2 (P := 32) (ls' := [(0, .ref 0), (1, .int 14), (2, .int b)]) (st' := [.int (-1)]) (M' := s_M0) rfl ?_
      refine s_ek_ret (o := some (.int (-1))) (fun _ => rfl) ?_
      refine ⟨(-1), rfl, ?_⟩
      show s_Ek (s_rows 3 L xs) 1299 s_e257.1 0 [(0, .ref 151), (1, .int 14), (2, .int b)] [] s_M0 _
      refine s_ek_bk 13 (P := 30) (ls' := [(0, .ref 151), (1, .int 14), (2, .int b)]) (st' := [.int (-1)]) (M' := s_M0) rfl ?_
      refine s_ek_ret (o := some (.int (-1))) (fun _ => rfl) ?_
      exact rfl
    rcases s_rg_0_1 h3 h4 with rfl | rfl
    · exact s_ek_run s_El_rows s_clj_56 ⟨(-1), rfl, s_ek_run s_El_rows s_clj_57 rfl⟩
    · exact s_ek_run s_El_rows s_clj_58 ⟨(-1), rfl, s_ek_run s_El_rows s_clj_59 rfl⟩
  · rcases Int.lt_or_le b.toInt 0 with h3 | h3
    · show s_Ek (s_rows 3 L xs) 1299 s_e153.1 0 [(0, .ref 0), (1, .int 15), (2, .int b)] [] s_M0 _
      refine s_ek_bk 5 (P := 8) (ls' := [(0, .ref 0), (1, .int 15), (2, .int b)]) (st' := [.int 1]) (M' := s_M0) rfl ?_
      refine s_ek_call (ν := s_e173.1) (P := 11) (as := [.int 1]) (r := []) (fun _ => rfl) rfl ?_
      show s_Ek (s_rows 3 L xs) 1298 s_e173.1 0 [(0, .int 1)] [] s_M0 _
      refine s_ek_bk 7 (P := 14) (ls' := [(0, .int 1)]) (st' := [.int 1]) (M' := s_M0) rfl ?_
      refine s_ek_ret (o := some (.int 1)) (fun _ => rfl) ?_
      show s_Ek (s_rows 3 L xs) 1299 s_e153.1 11 [(0, .ref 0), (1, .int 15), (2, .int b)] [.int 1] s_M0 _
      refine s_ek_bk 4 (P := 18) (ls' := [(0, .ref 0), (1, .int 15), (2, .int b)]) (st' := [.int 5]) (M' := s_M0) rfl ?_
      refine s_ek_call (ν := s_e173.1) (P := 21) (as := [.int 5]) (r := []) (fun _ => rfl) rfl ?_
      show s_Ek (s_rows 3 L xs) 1298 s_e173.1 0 [(0, .int 5)] [] s_M0 _
      refine s_ek_bk 6 (P := 14) (ls' := [(0, .int 5)]) (st' := [.int 0]) (M' := s_M0) rfl ?_
      refine s_ek_ret (o := some (.int 0)) (fun _ => rfl) ?_
      show s_Ek (s_rows 3 L xs) 1299 s_e153.1 21 [(0, .ref 0), (1, .int 15), (2, .int b)] [.int 0] s_M0 _
      refine s_ek_bk 2 (P := 32) (ls' := [(0, .ref 0), (1, .int 15), (2, .int b)]) (st' := [.int (-1)]) (M' := s_M0) rfl ?_
      refine s_ek_ret (o := some (.int (-1))) (fun _ => rfl) ?_
      refine ⟨(-1), rfl, ?_⟩
      show s_Ek (s_rows 3 L xs) 1299 s_e257.1 0 [(0, .ref 151), (1, .int 15), (2, .int b)] [] s_M0 _
      refine s_ek_bk 13 (P := 30) (ls' := [(0, .ref 151), (1, .int 15), (2, .int b)]) (st' := [.int (-1)]) (M' := s_M0) rfl ?_
      refine s_ek_ret (o := some (.int (-1))) (fun _ => rfl) ?_
      exact rfl
    rcases Int.lt_or_le 1 b.toInt with h4 | h4
    · show s_Ek (s_rows 3 L xs) 1299 s_e153.1 0 [(0, .ref 0), (1, .int 15), (2, .int b)] [] s_M0 _
      refine s_ek_bk 5 (P := 8) (ls' := [(0, .ref 0), (1, .int 15), (2, .int b)]) (st' := [.int 1]) (M' := s_M0) rfl ?_
      refine s_ek_call (ν := s_e173.1) (P := 11) (as := [.int 1]) (r := []) (fun _ => rfl) rfl ?_
      show s_Ek (s_rows 3 L xs) 1298 s_e173.1 0 [(0, .int 1)] [] s_M0 _
      refine s_ek_bk 7 (P := 14) (ls' := [(0, .int 1)]) (st' := [.int 1]) (M' := s_M0) rfl ?_
      refine s_ek_ret (o := some (.int 1)) (fun _ => rfl) ?_
      show s_Ek (s_rows 3 L xs) 1299 s_e153.1 11 [(0, .ref 0), (1, .int 15), (2, .int b)] [.int 1] s_M0 _
      refine s_ek_bk 4 (P := 18) (ls' := [(0, .ref 0), (1, .int 15), (2, .int b)]) (st' := [.int 5]) (M' := s_M0) rfl ?_
      refine s_ek_call (ν := s_e173.1) (P := 21) (as := [.int 5]) (r := []) (fun _ => rfl) rfl ?_
      show s_Ek (s_rows 3 L xs) 1298 s_e173.1 0 [(0, .int 5)] [] s_M0 _
      refine s_ek_bk 6 (P := 14) (ls' := [(0, .int 5)]) (st' := [.int 0]) (M' := s_M0) rfl ?_
      refine s_ek_ret (o := some (.int 0)) (fun _ => rfl) ?_
      show s_Ek (s_rows 3 L xs) 1299 s_e153.1 21 [(0, .ref 0), (1, .int 15), (2, .int b)] [.int 0] s_M0 _
      refine s_ek_bk 2 (P := 32) (ls' := [(0, .ref 0), (1, .int 15), (2, .int b)]) (st' := [.int (-1)]) (M' := s_M0) rfl ?_
      refine s_ek_ret (o := some (.int (-1))) (fun _ => rfl) ?_
      refine ⟨(-1), rfl, ?_⟩
      show s_Ek (s_rows 3 L xs) 1299 s_e257.1 0 [(0, .ref 151), (1, .int 15), (2, .int b)] [] s_M0 _
      refine s_ek_bk 13 (P := 30) (ls' := [(0, .ref 151), (1, .int 15), (2, .int b)]) (st' := [.int (-1)]) (M' := s_M0) rfl ?_
      refine s_ek_ret (o := some (.int (-1))) (fun _ => rfl) ?_
      exact rfl
    rcases s_rg_0_1 h3 h4 with rfl | rfl
    · exact s_ek_run s_El_rows s_clj_60 ⟨(-1), rfl, s_ek_run s_El_rows s_clj_61 rfl⟩
    · exact s_ek_run s_El_rows s_clj_62 ⟨(-1), rfl, s_ek_run s_El_rows s_clj_63 rfl⟩
  · rcases Int.lt_or_le b.toInt 0 with h3 | h3
    · show s_Ek (s_rows 3 L xs) 1299 s_e153.1 0 [(0, .ref 0), (1, .int 16), (2, .int b)] [] s_M0 _
      refine s_ek_bk 5 (P := 8) (ls' := [(0, .ref 0), (1, .int 16), (2, .int b)]) (st' := [.int 1]) (M' := s_M0) rfl ?_
      refine s_ek_call (ν := s_e173.1) (P := 11) (as := [.int 1]) (r := []) (fun _ => rfl) rfl ?_
      show s_Ek (s_rows 3 L xs) 1298 s_e173.1 0 [(0, .int 1)] [] s_M0 _
      refine s_ek_bk 7 (P := 14) (ls' := [(0, .int 1)]) (st' := [.int 1]) (M' := s_M0) rfl ?_
      refine s_ek_ret (o := some (.int 1)) (fun _ => rfl) ?_
      show s_Ek (s_rows 3 L xs) 1299 s_e153.1 11 [(0, .ref 0), (1, .int 16), (2, .int b)] [.int 1] s_M0 _
      refine s_ek_bk 4 (P := 18) (ls' := [(0, .ref 0), (1, .int 16), (2, .int b)]) (st' := [.int 6]) (M' := s_M0) rfl ?_
      refine s_ek_call (ν := s_e173.1) (P := 21) (as := [.int 6]) (r := []) (fun _ => rfl) rfl ?_
      show s_Ek (s_rows 3 L xs) 1298 s_e173.1 0 [(0, .int 6)] [] s_M0 _
      refine s_ek_bk 6 (P := 14) (ls' := [(0, .int 6)]) (st' := [.int 0]) (M' := s_M0) rfl ?_
      refine s_ek_ret (o := some (.int 0)) (fun _ => rfl) ?_
      show s_Ek (s_rows 3 L xs) 1299 s_e153.1 21 [(0, .ref 0), (1, .int 16), (2, .int b)] [.int 0] s_M0 _
      refine s_ek_bk 2 (P := 32) (ls' := [(0, .ref 0), (1, .int 16), (2, .int b)]) (st' := [.int (-1)]) (M' := s_M0) rfl ?_
      refine s_ek_ret (o := some (.int (-1))) (fun _ => rfl) ?_
      refine ⟨(-1), rfl, ?_⟩
      show s_Ek (s_rows 3 L xs) 1299 s_e257.1 0 [(0, .ref 151), (1, .int 16), (2, .int b)] [] s_M0 _
      refine s_ek_bk 13 (P := 30) (ls' := [(0, .ref 151), (1, .int 16), (2, .int b)]) (st' := [.int (-1)]) (M' := s_M0) rfl ?_
      refine s_ek_ret (o := some (.int (-1))) (fun _ => rfl) ?_
      exact rfl
    rcases Int.lt_or_le 1 b.toInt with h4 | h4
    · show s_Ek (s_rows 3 L xs) 1299 s_e153.1 0 [(0, .ref 0), (1, .int 16), (2, .int b)] [] s_M0 _
      refine s_ek_bk 5 (P := 8) (ls' := [(0, .ref 0), (1, .int 16), (2, .int b)]) (st' := [.int 1]) (M' := s_M0) rfl ?_
      refine s_ek_call (ν := s_e173.1) (P := 11) (as := [.int 1]) (r := []) (fun _ => rfl) rfl ?_
      show s_Ek (s_rows 3 L xs) 1298 s_e173.1 0 [(0, .int 1)] [] s_M0 _
      refine s_ek_bk 7 (P := 14) (ls' := [(0, .int 1)]) (st' := [.int 1]) (M' := s_M0) rfl ?_
      refine s_ek_ret (o := some (.int 1)) (fun _ => rfl) ?_
      show s_Ek (s_rows 3 L xs) 1299 s_e153.1 11 [(0, .ref 0), (1, .int 16), (2, .int b)] [.int 1] s_M0 _
      refine s_ek_bk 4 (P := 18) (ls' := [(0, .ref 0), (1, .int 16), (2, .int b)]) (st' := [.int 6]) (M' := s_M0) rfl ?_
      refine s_ek_call (ν := s_e173.1) (P := 21) (as := [.int 6]) (r := []) (fun _ => rfl) rfl ?_
      show s_Ek (s_rows 3 L xs) 1298 s_e173.1 0 [(0, .int 6)] [] s_M0 _
      refine s_ek_bk 6 (P := 14) (ls' := [(0, .int 6)]) (st' := [.int 0]) (M' := s_M0) rfl ?_
      refine s_ek_ret (o := some (.int 0)) (fun _ => rfl) ?_
      show s_Ek (s_rows 3 L xs) 1299 s_e153.1 21 [(0, .ref 0), (1, .int 16), (2, .int b)] [.int 0] s_M0 _
      refine s_ek_bk 2 (P := 32) (ls' := [(0, .ref 0), (1, .int 16), (2, .int b)]) (st' := [.int (-1)]) (M' := s_M0) rfl ?_
      refine s_ek_ret (o := some (.int (-1))) (fun _ => rfl) ?_
      refine ⟨(-1), rfl, ?_⟩
      show s_Ek (s_rows 3 L xs) 1299 s_e257.1 0 [(0, .ref 151), (1, .int 16), (2, .int b)] [] s_M0 _
      refine s_ek_bk 13 (P := 30) (ls' := [(0, .ref 151), (1, .int 16), (2, .int b)]) (st' := [.int (-1)]) (M' := s_M0) rfl ?_
      refine s_ek_ret (o := some (.int (-1))) (fun _ => rfl) ?_
      exact rfl
    rcases s_rg_0_1 h3 h4 with rfl | rfl
    · exact s_ek_run s_El_rows s_clj_64 ⟨(-1), rfl, s_ek_run s_El_rows s_clj_65 rfl⟩
    · exact s_ek_run s_El_rows s_clj_66 ⟨(-1), rfl, s_ek_run s_El_rows s_clj_67 rfl⟩
  · rcases Int.lt_or_le b.toInt 0 with h3 | h3
    · show s_Ek (s_rows 3 L xs) 1299 s_e153.1 0 [(0, .ref 0), (1, .int 17), (2, .int b)] [] s_M0 _
      refine s_ek_bk 5 (P := 8) (ls' := [(0, .ref 0), (1, .int 17), (2, .int b)]) (st' := [.int 1]) (M' := s_M0) rfl ?_
      refine s_ek_call (ν := s_e173.1) (P := 11) (as := [.int 1]) (r := []) (fun _ => rfl) rfl ?_
      show s_Ek (s_rows 3 L xs) 1298 s_e173.1 0 [(0, .int 1)] [] s_M0 _
      refine s_ek_bk 7 (P := 14) (ls' := [(0, .int 1)]) (st' := [.int 1]) (M' := s_M0) rfl ?_
      refine s_ek_ret (o := some (.int 1)) (fun _ => rfl) ?_
      show s_Ek (s_rows 3 L xs) 1299 s_e153.1 11 [(0, .ref 0), (1, .int 17), (2, .int b)] [.int 1] s_M0 _
      refine s_ek_bk 4 (P := 18) (ls' := [(0, .ref 0), (1, .int 17), (2, .int b)]) (st' := [.int 7]) (M' := s_M0) rfl ?_
      refine s_ek_call (ν := s_e173.1) (P := 21) (as := [.int 7]) (r := []) (fun _ => rfl) rfl ?_
      show s_Ek (s_rows 3 L xs) 1298 s_e173.1 0 [(0, .int 7)] [] s_M0 _
      refine s_ek_bk 6 (P := 14) (ls' := [(0, .int 7)]) (st' := [.int 0]) (M' := s_M0) rfl ?_
      refine s_ek_ret (o := some (.int 0)) (fun _ => rfl) ?_
      show s_Ek (s_rows 3 L xs) 1299 s_e153.1 21 [(0, .ref 0), (1, .int 17), (2, .int b)] [.int 0] s_M0 _
      refine s_ek_bk 2 (P := 32) (ls' := [(0, .ref 0), (1, .int 17), (2, .int b)]) (st' := [.int (-1)]) (M' := s_M0) rfl ?_
      refine s_ek_ret (o := some (.int (-1))) (fun _ => rfl) ?_
      refine ⟨(-1), rfl, ?_⟩
      show s_Ek (s_rows 3 L xs) 1299 s_e257.1 0 [(0, .ref 151), (1, .int 17), (2, .int b)] [] s_M0 _
      refine s_ek_bk 13 (P := 30) (ls' := [(0, .ref 151), (1, .int 17), (2, .int b)]) (st' := [.int (-1)]) (M' := s_M0) rfl ?_
      refine s_ek_ret (o := some (.int (-1))) (fun _ => rfl) ?_
      exact rfl
    rcases Int.lt_or_le 1 b.toInt with h4 | h4
    · show s_Ek (s_rows 3 L xs) 1299 s_e153.1 0 [(0, .ref 0), (1, .int 17), (2, .int b)] [] s_M0 _
      refine s_ek_bk 5 (P := 8) (ls' := [(0, .ref 0), (1, .int 17), (2, .int b)]) (st' := [.int 1]) (M' := s_M0) rfl ?_
      refine s_ek_call (ν := s_e173.1) (P := 11) (as := [.int 1]) (r := []) (fun _ => rfl) rfl ?_
      show s_Ek (s_rows 3 L xs) 1298 s_e173.1 0 [(0, .int 1)] [] s_M0 _
      refine s_ek_bk 7 (P := 14) (ls' := [(0, .int 1)]) (st' := [.int 1]) (M' := s_M0) rfl ?_
      refine s_ek_ret (o := some (.int 1)) (fun _ => rfl) ?_
      show s_Ek (s_rows 3 L xs) 1299 s_e153.1 11 [(0, .ref 0), (1, .int 17), (2, .int b)] [.int 1] s_M0 _
      refine s_ek_bk 4 (P := 18) (ls' := [(0, .ref 0), (1, .int 17), (2, .int b)]) (st' := [.int 7]) (M' := s_M0) rfl ?_
      refine s_ek_call (ν := s_e173.1) (P := 21) (as := [.int 7]) (r := []) (fun _ => rfl) rfl ?_
      show s_Ek (s_rows 3 L xs) 1298 s_e173.1 0 [(0, .int 7)] [] s_M0 _
      refine s_ek_bk 6 (P := 14) (ls' := [(0, .int 7)]) (st' := [.int 0]) (M' := s_M0) rfl ?_
      refine s_ek_ret (o := some (.int 0)) (fun _ => rfl) ?_
      show s_Ek (s_rows 3 L xs) 1299 s_e153.1 21 [(0, .ref 0), (1, .int 17), (2, .int b)] [.int 0] s_M0 _
      refine s_ek_bk 2 (P := 32) (ls' := [(0, .ref 0), (1, .int 17), (2, .int b)]) (st' := [.int (-1)]) (M' := s_M0) rfl ?_
      refine s_ek_ret (o := some (.int (-1))) (fun _ => rfl) ?_
      refine ⟨(-1), rfl, ?_⟩
      show s_Ek (s_rows 3 L xs) 1299 s_e257.1 0 [(0, .ref 151), (1, .int 17), (2, .int b)] [] s_M0 _
      refine s_ek_bk 13 (P := 30) (ls' := [(0, .ref 151), (1, .int 17), (2, .int b)]) (st' := [.int (-1)]) (M' := s_M0) rfl ?_
      refine s_ek_ret (o := some (.int (-1))) (fun _ => rfl) ?_
      exact rfl
    rcases s_rg_0_1 h3 h4 with rfl | rfl
    · exact s_ek_run s_El_rows s_clj_68 ⟨(-1), rfl, s_ek_run s_El_rows s_clj_69 rfl⟩
    · exact s_ek_run s_El_rows s_clj_70 ⟨(-1), rfl, s_ek_run s_El_rows s_clj_71 rfl⟩
  · rcases Int.lt_or_le b.toInt 0 with h3 | h3
    · show s_Ek (s_rows 3 L xs) 1299 s_e153.1 0 [(0, .ref 0), (1, .int 18), (2, .int b)] [] s_M0 _
      refine s_ek_bk 5 (P := 8) (ls' := [(0, .ref 0), (1, .int 18), (2, .int b)]) (st' := [.int 1]) (M' := s_M0) rfl ?_
      refine s_ek_call (ν := s_e173.1) (P := 11) (as := [.int 1]) (r := []) (fun _ => rfl) rfl ?_
      show s_Ek (s_rows 3 L xs) 1298 s_e173.1 0 [(0, .int 1)] [] s_M0 _
      refine s_ek_bk 7 (P := 14) (ls' := [(0, .int 1)]) (st' := [.int 1]) (M' := s_M0) rfl ?_
      refine s_ek_ret (o := some (.int 1)) (fun _ => rfl) ?_
      show s_Ek (s_rows 3 L xs) 1299 s_e153.1 11 [(0, .ref 0), (1, .int 18), (2, .int b)] [.int 1] s_M0 _
      refine s_ek_bk 4 (P := 18) (ls' := [(0, .ref 0), (1, .int 18), (2, .int b)]) (st' := [.int 8]) (M' := s_M0) rfl ?_
      refine s_ek_call (ν := s_e173.1) (P := 21) (as := [.int 8]) (r := []) (fun _ => rfl) rfl ?_
      show s_Ek (s_rows 3 L xs) 1298 s_e173.1 0 [(0, .int 8)] [] s_M0 _
      refine s_ek_bk 6 (P := 14) (ls' := [(0, .int 8)]) (st' := [.int 0]) (M' := s_M0) rfl ?_
      refine s_ek_ret (o := some (.int 0)) (fun _ => rfl) ?_
      show s_Ek (s_rows 3 L xs) 1299 s_e153.1 21 [(0, .ref 0), (1, .int 18), (2, .int b)] [.int 0] s_M0 _
      refine s_ek_bk 2 (P := 32) (ls' := [(0, .ref 0), (1, .int 18), (2, .int b)]) (st' := [.int (-1)]) (M' := s_M0) rfl ?_
      refine s_ek_ret (o := some (.int (-1))) (fun _ => rfl) ?_
      refine ⟨(-1), rfl, ?_⟩
      show s_Ek (s_rows 3 L xs) 1299 s_e257.1 0 [(0, .ref 151), (1, .int 18), (2, .int b)] [] s_M0 _
      refine s_ek_bk 13 (P := 30) (ls' := [(0, .ref 151), (1, .int 18), (2, .int b)]) (st' := [.int (-1)]) (M' := s_M0) rfl ?_
      refine s_ek_ret (o := some (.int (-1))) (fun _ => rfl) ?_
      exact rfl
    rcases Int.lt_or_le 1 b.toInt with h4 | h4
    · show s_Ek (s_rows 3 L xs) 1299 s_e153.1 0 [(0, .ref 0), (1, .int 18), (2, .int b)] [] s_M0 _
      refine s_ek_bk 5 (P := 8) (ls' := [(0, .ref 0), (1, .int 18), (2, .int b)]) (st' := [.int 1]) (M' := s_M0) rfl ?_
      refine s_ek_call (ν := s_e173.1) (P := 11) (as := [.int 1]) (r := []) (fun _ => rfl) rfl ?_
      show s_Ek (s_rows 3 L xs) 1298 s_e173.1 0 [(0, .int 1)] [] s_M0 _
      refine s_ek_bk 7 (P := 14) (ls' := [(0, .int 1)]) (st' := [.int 1]) (M' := s_M0) rfl ?_
      refine s_ek_ret (o := some (.int 1)) (fun _ => rfl) ?_
      show s_Ek (s_rows 3 L xs) 1299 s_e153.1 11 [(0, .ref 0), (1, .int 18), (2, .int b)] [.int 1] s_M0 _
      refine s_ek_bk 4 (P := 18) (ls' := [(0, .ref 0), (1, .int 18), (2, .int b)]) (st' := [.int 8]) (M' := s_M0) rfl ?_
      refine s_ek_call (ν := s_e173.1) (P := 21) (as := [.int 8]) (r := []) (fun _ => rfl) rfl ?_
      show s_Ek (s_rows 3 L xs) 1298 s_e173.1 0 [(0, .int 8)] [] s_M0 _
      refine s_ek_bk 6 (P := 14) (ls' := [(0, .int 8)]) (st' := [.int 0]) (M' := s_M0) rfl ?_
      refine s_ek_ret (o := some (.int 0)) (fun _ => rfl) ?_
      show s_Ek (s_rows 3 L xs) 1299 s_e153.1 21 [(0, .ref 0), (1, .int 18), (2, .int b)] [.int 0] s_M0 _
      refine s_ek_bk 2 (P := 32) (ls' := [(0, .ref 0), (1, .int 18), (2, .int b)]) (st' := [.int (-1)]) (M' := s_M0) rfl ?_
      refine s_ek_ret (o := some (.int (-1))) (fun _ => rfl) ?_
      refine ⟨(-1), rfl, ?_⟩
      show s_Ek (s_rows 3 L xs) 1299 s_e257.1 0 [(0, .ref 151), (1, .int 18), (2, .int b)] [] s_M0 _
      refine s_ek_bk 13 (P := 30) (ls' := [(0, .ref 151), (1, .int 18), (2, .int b)]) (st' := [.int (-1)]) (M' := s_M0) rfl ?_
      refine s_ek_ret (o := some (.int (-1))) (fun _ => rfl) ?_
      exact rfl
    rcases s_rg_0_1 h3 h4 with rfl | rfl
    · exact s_ek_run s_El_rows s_clj_72 ⟨(-1), rfl, s_ek_run s_El_rows s_clj_73 rfl⟩
    · exact s_ek_run s_El_rows s_clj_74 ⟨(-1), rfl, s_ek_run s_El_rows s_clj_75 rfl⟩
  · rcases Int.lt_or_le b.toInt 0 with h3 | h3
    · show s_Ek (s_rows 3 L xs) 1299 s_e153.1 0 [(0, .ref 0), (1, .int 19), (2, .int b)] [] s_M0 _
      refine s_ek_bk 5 (P := 8) (ls' := [(0, .ref 0), (1, .int 19), (2, .int b)]) (st' := [.int 1]) (M' := s_M0) rfl ?_
      refine s_ek_call (ν := s_e173.1) (P := 11) (as := [.int 1]) (r := []) (fun _ => rfl) rfl ?_
      show s_Ek (s_rows 3 L xs) 1298 s_e173.1 0 [(0, .int 1)] [] s_M0 _
      refine s_ek_bk 7 (P := 14) (ls' := [(0, .int 1)]) (st' := [.int 1]) (M' := s_M0) rfl ?_
      refine s_ek_ret (o := some (.int 1)) (fun _ => rfl) ?_
      show s_Ek (s_rows 3 L xs) 1299 s_e153.1 11 [(0, .ref 0), (1, .int 19), (2, .int b)] [.int 1] s_M0 _
      refine s_ek_bk 4 (P := 18) (ls' := [(0, .ref 0), (1, .int 19), (2, .int b)]) (st' := [.int 9]) (M' := s_M0) rfl ?_
      refine s_ek_call (ν := s_e173.1) (P := 21) (as := [.int 9]) (r := []) (fun _ => rfl) rfl ?_
      show s_Ek (s_rows 3 L xs) 1298 s_e173.1 0 [(0, .int 9)] [] s_M0 _
      refine s_ek_bk 6 (P := 14) (ls' := [(0, .int 9)]) (st' := [.int 0]) (M' := s_M0) rfl ?_
      refine s_ek_ret (o := some (.int 0)) (fun _ => rfl) ?_
      show s_Ek (s_rows 3 L xs) 1299 s_e153.1 21 [(0, .ref 0), (1, .int 19), (2, .int b)] [.int 0] s_M0 _
      refine s_ek_bk 2 (P := 32) (ls' := [(0, .ref 0), (1, .int 19), (2, .int b)]) (st' := [.int (-1)]) (M' := s_M0) rfl ?_
      refine s_ek_ret (o := some (.int (-1))) (fun _ => rfl) ?_
      refine ⟨(-1), rfl, ?_⟩
      show s_Ek (s_rows 3 L xs) 1299 s_e257.1 0 [(0, .ref 151), (1, .int 19), (2, .int b)] [] s_M0 _
      refine s_ek_bk 13 (P := 30) (ls' := [(0, .ref 151), (1, .int 19), (2, .int b)]) (st' := [.int (-1)]) (M' := s_M0) rfl ?_
      refine s_ek_ret (o := some (.int (-1))) (fun _ => rfl) ?_
      exact rfl
    rcases Int.lt_or_le 1 b.toInt with h4 | h4
    · show s_Ek (s_rows 3 L xs) 1299 s_e153.1 0 [(0, .ref 0), (1, .int 19), (2, .int b)] [] s_M0 _
      refine s_ek_bk 5 (P := 8) (ls' := [(0, .ref 0), (1, .int 19), (2, .int b)]) (st' := [.int 1]) (M' := s_M0) rfl ?_
      refine s_ek_call (ν := s_e173.1) (P := 11) (as := [.int 1]) (r := []) (fun _ => rfl) rfl ?_
      show s_Ek (s_rows 3 L xs) 1298 s_e173.1 0 [(0, .int 1)] [] s_M0 _
      refine s_ek_bk 7 (P := 14) (ls' := [(0, .int 1)]) (st' := [.int 1]) (M' := s_M0) rfl ?_
      refine s_ek_ret (o := some (.int 1)) (fun _ => rfl) ?_
      show s_Ek (s_rows 3 L xs) 1299 s_e153.1 11 [(0, .ref 0), (1, .int 19), (2, .int b)] [.int 1] s_M0 _
      refine s_ek_bk 4 (P := 18) (ls' := [(0, .ref 0), (1, .int 19), (2, .int b)]) (st' := [.int 9]) (M' := s_M0) rfl ?_
      refine s_ek_call (ν := s_e173.1) (P := 21) (as := [.int 9]) (r := []) (fun _ => rfl) rfl ?_
      show s_Ek (s_rows 3 L xs) 1298 s_e173.1 0 [(0, .int 9)] [] s_M0 _
      refine s_ek_bk 6 (P := 14) (ls' := [(0, .int 9)]) (st' := [.int 0]) (M' := s_M0) rfl ?_
      refine s_ek_ret (o := some (.int 0)) (fun _ => rfl) ?_
      show s_Ek (s_rows 3 L xs) 1299 s_e153.1 21 [(0, .ref 0), (1, .int 19), (2, .int b)] [.int 0] s_M0 _
      refine s_ek_bk 2 (P := 32) (ls' := [(0, .ref 0), (1, .int 19), (2, .int b)]) (st' := [.int (-1)]) (M' := s_M0) rfl ?_
      refine s_ek_ret (o := some (.int (-1))) (fun _ => rfl) ?_
      refine ⟨(-1), rfl, ?_⟩
      show s_Ek (s_rows 3 L xs) 1299 s_e257.1 0 [(0, .ref 151), (1, .int 19), (2, .int b)] [] s_M0 _
      refine s_ek_bk 13 (P := 30) (ls' := [(0, .ref 151), (1, .int 19), (2, .int b)]) (st' := [.int (-1)]) (M' := s_M0) rfl ?_
      refine s_ek_ret (o := some (.int (-1))) (fun _ => rfl) ?_
      exact rfl
    rcases s_rg_0_1 h3 h4 with rfl | rfl
    · exact s_ek_run s_El_rows s_clj_76 ⟨(-1), rfl, s_ek_run s_El_rows s_clj_77 rfl⟩
    · exact s_ek_run s_El_rows s_clj_78 ⟨(-1), rfl, s_ek_run s_El_rows s_clj_79 rfl⟩
  · rcases Int.lt_or_le b.toInt 0 with h3 | h3
    · show s_Ek (s_rows 3 L xs) 1299 s_e153.1 0 [(0, .ref 0), (1, .int 20), (2, .int b)] [] s_M0 _
      refine s_ek_bk 5 (P := 8) (ls' := [(0, .ref 0), (1, .int 20), (2, .int b)]) (st' := [.int 2]) (M' := s_M0) rfl ?_
      refine s_ek_call (ν := s_e173.1) (P := 11) (as := [.int 2]) (r := []) (fun _ => rfl) rfl ?_
      show s_Ek (s_rows 3 L xs) 1298 s_e173.1 0 [(0, .int 2)] [] s_M0 _
      refine s_ek_bk 7 (P := 14) (ls' := [(0, .int 2)]) (st' := [.int 1]) (M' := s_M0) rfl ?_
      refine s_ek_ret (o := some (.int 1)) (fun _ => rfl) ?_
      show s_Ek (s_rows 3 L xs) 1299 s_e153.1 11 [(0, .ref 0), (1, .int 20), (2, .int b)] [.int 1] s_M0 _
      refine s_ek_bk 4 (P := 18) (ls' := [(0, .ref 0), (1, .int 20), (2, .int b)]) (st' := [.int 0]) (M' := s_M0) rfl ?_
      refine s_ek_call (ν := s_e173.1) (P := 21) (as := [.int 0]) (r := []) (fun _ => rfl) rfl ?_
      show s_Ek (s_rows 3 L xs) 1298 s_e173.1 0 [(0, .int 0)] [] s_M0 _
      refine s_ek_bk 7 (P := 14) (ls' := [(0, .int 0)]) (st' := [.int 1]) (M' := s_M0) rfl ?_
      refine s_ek_ret (o := some (.int 1)) (fun _ => rfl) ?_
      show s_Ek (s_rows 3 L xs) 1299 s_e153.1 21 [(0, .ref 0), (1, .int 20), (2, .int b)] [.int 1] s_M0 _
      refine s_ek_bk 2 (P := 25) (ls' := [(0, .ref 0), (1, .int 20), (2, .int b)]) (st' := [.int b]) (M' := s_M0) rfl ?_
      refine s_ek_call (ν := s_e174.1) (P := 28) (as := [.int b]) (r := []) (fun _ => rfl) rfl ?_
      show s_Ek (s_rows 3 L xs) 1298 s_e174.1 0 [(0, .int b)] [] s_M0 _
      refine s_ek_bk 1 (P := 1) (ls' := [(0, .int b)]) (st' := [.int b]) (M' := s_M0) rfl ?_
      refine s_ek_if1 (T := 9) rfl rfl (fun h5 => ?_) (fun h5 => ?_)
      · replace h5 : b.toInt = 0 := h5
        omega
      · replace h5 : ¬ (b.toInt = 0) := h5
        replace h5 : ¬ b.toInt = 0 := by omega
        refine s_ek_bk 2 (P := 6) (ls' := [(0, .int b)]) (st' := [.int 1, .int b]) (M' := s_M0) rfl ?_
        refine s_ek_if2 (T := 13) rfl rfl (fun h6 => ?_) (fun h6 => ?_)
        · replace h6 : ¬ b.toInt = 1 := h6
          refine s_ek_bk 1 (P := 14) (ls' := [(0, .int b)]) (st' := [.int 0]) (M' := s_M0) rfl ?_
          refine s_ek_ret (o := some (.int 0)) (fun _ => rfl) ?_
          show s_Ek (s_rows 3 L xs) 1299 s_e153.1 28 [(0, .ref 0), (1, .int 20), (2, .int b)] [.int 0] s_M0 _
          refine s_ek_bk 2 (P := 32) (ls' := [(0, .ref 0), (1, .int 20), (2, .int b)]) (st' := [.int (-1)]) (M' := s_M0) rfl ?_
          refine s_ek_ret (o := some (.int (-1))) (fun _ => rfl) ?_
          refine ⟨(-1), rfl, ?_⟩
          show s_Ek (s_rows 3 L xs) 1299 s_e257.1 0 [(0, .ref 151), (1, .int 20), (2, .int b)] [] s_M0 _
          refine s_ek_bk 15 (P := 23) (ls' := [(0, .ref 151), (1, .int 20), (2, .int b)]) (st' := [.int 1, .int 0, .int b]) (M' := s_M0) rfl ?_
          refine s_ek_call (ν := s_e181.1) (P := 26) (as := [.int b, .int 0, .int 1]) (r := []) (fun _ => rfl) rfl ?_
          show s_Ek (s_rows 3 L xs) 1298 s_e181.1 0 [(0, .int b), (1, .int 0), (2, .int 1)] [] s_M0 _
          refine s_ek_bk 2 (P := 2) (ls' := [(0, .int b), (1, .int 0), (2, .int 1)]) (st' := [.int 0, .int b]) (M' := s_M0) rfl ?_
          refine s_ek_if2 (T := 14) rfl rfl (fun h7 => ?_) (fun h7 => ?_)
          · replace h7 : b.toInt < 0 := h7
            refine s_ek_bk 1 (P := 15) (ls' := [(0, .int b), (1, .int 0), (2, .int 1)]) (st' := [.int 0]) (M' := s_M0) rfl ?_
            refine s_ek_ret (o := some (.int 0)) (fun _ => rfl) ?_
            show s_Ek (s_rows 3 L xs) 1299 s_e257.1 26 [(0, .ref 151), (1, .int 20), (2, .int b)] [.int 0] s_M0 _
            refine s_ek_bk 2 (P := 30) (ls' := [(0, .ref 151), (1, .int 20), (2, .int b)]) (st' := [.int (-1)]) (M' := s_M0) rfl ?_
            refine s_ek_ret (o := some (.int (-1))) (fun _ => rfl) ?_
            exact rfl
          · replace h7 : ¬ (b.toInt < 0) := h7
            replace h7 : 0 ≤ b.toInt := by omega
            omega
        · replace h6 : ¬ (¬ b.toInt = 1) := h6
          replace h6 : b.toInt = 1 := by omega
          omega
    rcases Int.lt_or_le 1 b.toInt with h4 | h4
    · show s_Ek (s_rows 3 L xs) 1299 s_e153.1 0 [(0, .ref 0), (1, .int 20), (2, .int b)] [] s_M0 _
      refine s_ek_bk 5 (P := 8) (ls' := [(0, .ref 0), (1, .int 20), (2, .int b)]) (st' := [.int 2]) (M' := s_M0) rfl ?_
      refine s_ek_call (ν := s_e173.1) (P := 11) (as := [.int 2]) (r := []) (fun _ => rfl) rfl ?_
      show s_Ek (s_rows 3 L xs) 1298 s_e173.1 0 [(0, .int 2)] [] s_M0 _
      refine s_ek_bk 7 (P := 14) (ls' := [(0, .int 2)]) (st' := [.int 1]) (M' := s_M0) rfl ?_
      refine s_ek_ret (o := some (.int 1)) (fun _ => rfl) ?_
      show s_Ek (s_rows 3 L xs) 1299 s_e153.1 11 [(0, .ref 0), (1, .int 20), (2, .int b)] [.int 1] s_M0 _
      refine s_ek_bk 4 (P := 18) (ls' := [(0, .ref 0), (1, .int 20), (2, .int b)]) (st' := [.int 0]) (M' := s_M0) rfl ?_
      refine s_ek_call (ν := s_e173.1) (P := 21) (as := [.int 0]) (r := []) (fun _ => rfl) rfl ?_
      show s_Ek (s_rows 3 L xs) 1298 s_e173.1 0 [(0, .int 0)] [] s_M0 _
      refine s_ek_bk 7 (P := 14) (ls' := [(0, .int 0)]) (st' := [.int 1]) (M' := s_M0) rfl ?_
      refine s_ek_ret (o := some (.int 1)) (fun _ => rfl) ?_
      show s_Ek (s_rows 3 L xs) 1299 s_e153.1 21 [(0, .ref 0), (1, .int 20), (2, .int b)] [.int 1] s_M0 _
      refine s_ek_bk 2 (P := 25) (ls' := [(0, .ref 0), (1, .int 20), (2, .int b)]) (st' := [.int b]) (M' := s_M0) rfl ?_
      refine s_ek_call (ν := s_e174.1) (P := 28) (as := [.int b]) (r := []) (fun _ => rfl) rfl ?_
      show s_Ek (s_rows 3 L xs) 1298 s_e174.1 0 [(0, .int b)] [] s_M0 _
      refine s_ek_bk 1 (P := 1) (ls' := [(0, .int b)]) (st' := [.int b]) (M' := s_M0) rfl ?_
      refine s_ek_if1 (T := 9) rfl rfl (fun h5 => ?_) (fun h5 => ?_)
      · replace h5 : b.toInt = 0 := h5
        omega
      · replace h5 : ¬ (b.toInt = 0) := h5
        replace h5 : ¬ b.toInt = 0 := by omega
        refine s_ek_bk 2 (P := 6) (ls' := [(0, .int b)]) (st' := [.int 1, .int b]) (M' := s_M0) rfl ?_
        refine s_ek_if2 (T := 13) rfl rfl (fun h6 => ?_) (fun h6 => ?_)
        · replace h6 : ¬ b.toInt = 1 := h6
          refine s_ek_bk 1 (P := 14) (ls' := [(0, .int b)]) (st' := [.int 0]) (M' := s_M0) rfl ?_
          refine s_ek_ret (o := some (.int 0)) (fun _ => rfl) ?_
          show s_Ek (s_rows 3 L xs) 1299 s_e153.1 28 [(0, .ref 0), (1, .int 20), (2, .int b)] [.int 0] s_M0 _
          refine s_ek_bk 2 (P := 32) (ls' := [(0, .ref 0), (1, .int 20), (2, .int b)]) (st' := [.int (-1)]) (M' := s_M0) rfl ?_
          refine s_ek_ret (o := some (.int (-1))) (fun _ => rfl) ?_
          refine ⟨(-1), rfl, ?_⟩
          show s_Ek (s_rows 3 L xs) 1299 s_e257.1 0 [(0, .ref 151), (1, .int 20), (2, .int b)] [] s_M0 _
          refine s_ek_bk 15 (P := 23) (ls' := [(0, .ref 151), (1, .int 20), (2, .int b)]) (st' := [.int 1, .int 0, .int b]) (M' := s_M0) rfl ?_
          refine s_ek_call (ν := s_e181.1) (P := 26) (as := [.int b, .int 0, .int 1]) (r := []) (fun _ => rfl) rfl ?_
          show s_Ek (s_rows 3 L xs) 1298 s_e181.1 0 [(0, .int b), (1, .int 0), (2, .int 1)] [] s_M0 _
          refine s_ek_bk 2 (P := 2) (ls' := [(0, .int b), (1, .int 0), (2, .int 1)]) (st' := [.int 0, .int b]) (M' := s_M0) rfl ?_
          refine s_ek_if2 (T := 14) rfl rfl (fun h7 => ?_) (fun h7 => ?_)
          · replace h7 : b.toInt < 0 := h7
            omega
          · replace h7 : ¬ (b.toInt < 0) := h7
            replace h7 : 0 ≤ b.toInt := by omega
            refine s_ek_bk 2 (P := 7) (ls' := [(0, .int b), (1, .int 0), (2, .int 1)]) (st' := [.int 1, .int b]) (M' := s_M0) rfl ?_
            refine s_ek_if2 (T := 14) rfl rfl (fun h8 => ?_) (fun h8 => ?_)
            · replace h8 : 1 < b.toInt := h8
              refine s_ek_bk 1 (P := 15) (ls' := [(0, .int b), (1, .int 0), (2, .int 1)]) (st' := [.int 0]) (M' := s_M0) rfl ?_
              refine s_ek_ret (o := some (.int 0)) (fun _ => rfl) ?_
              show s_Ek (s_rows 3 L xs) 1299 s_e257.1 26 [(0, .ref 151), (1, .int 20), (2, .int b)] [.int 0] s_M0 _
              refine s_ek_bk 2 (P := 30) (ls' := [(0, .ref 151), (1, .int 20), (2, .int b)]) (st' := [.int (-1)]) (M' := s_M0) rfl ?_
              refine s_ek_ret (o := some (.int (-1))) (fun _ => rfl) ?_
              exact rfl
            · replace h8 : ¬ (1 < b.toInt) := h8
              replace h8 : b.toInt ≤ 1 := by omega
              omega
        · replace h6 : ¬ (¬ b.toInt = 1) := h6
          replace h6 : b.toInt = 1 := by omega
          omega
    rcases s_rg_0_1 h3 h4 with rfl | rfl
    · exact s_ek_run s_El_rows s_clj_80 ⟨0, rfl, s_ek_run s_El_rows s_clj_81 rfl⟩
    · exact s_ek_run s_El_rows s_clj_82 ⟨(-2), rfl, s_ek_run s_El_rows s_clj_83 rfl⟩
  · rcases Int.lt_or_le b.toInt 0 with h3 | h3
    · show s_Ek (s_rows 3 L xs) 1299 s_e153.1 0 [(0, .ref 0), (1, .int 21), (2, .int b)] [] s_M0 _
      refine s_ek_bk 5 (P := 8) (ls' := [(0, .ref 0), (1, .int 21), (2, .int b)]) (st' := [.int 2]) (M' := s_M0) rfl ?_
      refine s_ek_call (ν := s_e173.1) (P := 11) (as := [.int 2]) (r := []) (fun _ => rfl) rfl ?_
      show s_Ek (s_rows 3 L xs) 1298 s_e173.1 0 [(0, .int 2)] [] s_M0 _
      refine s_ek_bk 7 (P := 14) (ls' := [(0, .int 2)]) (st' := [.int 1]) (M' := s_M0) rfl ?_
      refine s_ek_ret (o := some (.int 1)) (fun _ => rfl) ?_
      show s_Ek (s_rows 3 L xs) 1299 s_e153.1 11 [(0, .ref 0), (1, .int 21), (2, .int b)] [.int 1] s_M0 _
      refine s_ek_bk 4 (P := 18) (ls' := [(0, .ref 0), (1, .int 21), (2, .int b)]) (st' := [.int 1]) (M' := s_M0) rfl ?_
      refine s_ek_call (ν := s_e173.1) (P := 21) (as := [.int 1]) (r := []) (fun _ => rfl) rfl ?_
      show s_Ek (s_rows 3 L xs) 1298 s_e173.1 0 [(0, .int 1)] [] s_M0 _
      refine s_ek_bk 7 (P := 14) (ls' := [(0, .int 1)]) (st' := [.int 1]) (M' := s_M0) rfl ?_
      refine s_ek_ret (o := some (.int 1)) (fun _ => rfl) ?_
      show s_Ek (s_rows 3 L xs) 1299 s_e153.1 21 [(0, .ref 0), (1, .int 21), (2, .int b)] [.int 1] s_M0 _
      refine s_ek_bk 2 (P := 25) (ls' := [(0, .ref 0), (1, .int 21), (2, .int b)]) (st' := [.int b]) (M' := s_M0) rfl ?_
      refine s_ek_call (ν := s_e174.1) (P := 28) (as := [.int b]) (r := []) (fun _ => rfl) rfl ?_
      show s_Ek (s_rows 3 L xs) 1298 s_e174.1 0 [(0, .int b)] [] s_M0 _
      refine s_ek_bk 1 (P := 1) (ls' := [(0, .int b)]) (st' := [.int b]) (M' := s_M0) rfl ?_
      refine s_ek_if1 (T := 9) rfl rfl (fun h5 => ?_) (fun h5 => ?_)
      · replace h5 : b.toInt = 0 := h5
        omega
      · replace h5 : ¬ (b.toInt = 0) := h5
        replace h5 : ¬ b.toInt = 0 := by omega
        refine s_ek_bk 2 (P := 6) (ls' := [(0, .int b)]) (st' := [.int 1, .int b]) (M' := s_M0) rfl ?_
        refine s_ek_if2 (T := 13) rfl rfl (fun h6 => ?_) (fun h6 => ?_)
        · replace h6 : ¬ b.toInt = 1 := h6
          refine s_ek_bk 1 (P := 14) (ls' := [(0, .int b)]) (st' := [.int 0]) (M' := s_M0) rfl ?_
          refine s_ek_ret (o := some (.int 0)) (fun _ => rfl) ?_
          show s_Ek (s_rows 3 L xs) 1299 s_e153.1 28 [(0, .ref 0), (1, .int 21), (2, .int b)] [.int 0] s_M0 _
          refine s_ek_bk 2 (P := 32) (ls' := [(0, .ref 0), (1, .int 21), (2, .int b)]) (st' := [.int (-1)]) (M' := s_M0) rfl ?_
          refine s_ek_ret (o := some (.int (-1))) (fun _ => rfl) ?_
          refine ⟨(-1), rfl, ?_⟩
          show s_Ek (s_rows 3 L xs) 1299 s_e257.1 0 [(0, .ref 151), (1, .int 21), (2, .int b)] [] s_M0 _
          refine s_ek_bk 15 (P := 23) (ls' := [(0, .ref 151), (1, .int 21), (2, .int b)]) (st' := [.int 1, .int 0, .int b]) (M' := s_M0) rfl ?_
          refine s_ek_call (ν := s_e181.1) (P := 26) (as := [.int b, .int 0, .int 1]) (r := []) (fun _ => rfl) rfl ?_
          show s_Ek (s_rows 3 L xs) 1298 s_e181.1 0 [(0, .int b), (1, .int 0), (2, .int 1)] [] s_M0 _
          refine s_ek_bk 2 (P := 2) (ls' := [(0, .int b), (1, .int 0), (2, .int 1)]) (st' := [.int 0, .int b]) (M' := s_M0) rfl ?_
          refine s_ek_if2 (T := 14) rfl rfl (fun h7 => ?_) (fun h7 => ?_)
          · replace h7 : b.toInt < 0 := h7
            refine s_ek_bk 1 (P := 15) (ls' := [(0, .int b), (1, .int 0), (2, .int 1)]) (st' := [.int 0]) (M' := s_M0) rfl ?_
            refine s_ek_ret (o := some (.int 0)) (fun _ => rfl) ?_
            show s_Ek (s_rows 3 L xs) 1299 s_e257.1 26 [(0, .ref 151), (1, .int 21), (2, .int b)] [.int 0] s_M0 _
            refine s_ek_bk 2 (P := 30) (ls' := [(0, .ref 151), (1, .int 21), (2, .int b)]) (st' := [.int (-1)]) (M' := s_M0) rfl ?_
            refine s_ek_ret (o := some (.int (-1))) (fun _ => rfl) ?_
            exact rfl
          · replace h7 : ¬ (b.toInt < 0) := h7
            replace h7 : 0 ≤ b.toInt := by omega
            omega
        · replace h6 : ¬ (¬ b.toInt = 1) := h6
          replace h6 : b.toInt = 1 := by omega
          omega
    rcases Int.lt_or_le 1 b.toInt with h4 | h4
    · show s_Ek (s_rows 3 L xs) 1299 s_e153.1 0 [(0, .ref 0), (1, .int 21), (2, .int b)] [] s_M0 _
      refine s_ek_bk 5 (P := 8) (ls' := [(0, .ref 0), (1, .int 21), (2, .int b)]) (st' := [.int 2]) (M' := s_M0) rfl ?_
      refine s_ek_call (ν := s_e173.1) (P := 11) (as := [.int 2]) (r := []) (fun _ => rfl) rfl ?_
      show s_Ek (s_rows 3 L xs) 1298 s_e173.1 0 [(0, .int 2)] [] s_M0 _
      refine s_ek_bk 7 (P := 14) (ls' := [(0, .int 2)]) (st' := [.int 1]) (M' := s_M0) rfl ?_
      refine s_ek_ret (o := some (.int 1)) (fun _ => rfl) ?_
      show s_Ek (s_rows 3 L xs) 1299 s_e153.1 11 [(0, .ref 0), (1, .int 21), (2, .int b)] [.int 1] s_M0 _
      refine s_ek_bk 4 (P := 18) (ls' := [(0, .ref 0), (1, .int 21), (2, .int b)]) (st' := [.int 1]) (M' := s_M0) rfl ?_
      refine s_ek_call (ν := s_e173.1) (P := 21) (as := [.int 1]) (r := []) (fun _ => rfl) rfl ?_
      show s_Ek (s_rows 3 L xs) 1298 s_e173.1 0 [(0, .int 1)] [] s_M0 _
      refine s_ek_bk 7 (P := 14) (ls' := [(0, .int 1)]) (st' := [.int 1]) (M' := s_M0) rfl ?_
      refine s_ek_ret (o := some (.int 1)) (fun _ => rfl) ?_
      show s_Ek (s_rows 3 L xs) 1299 s_e153.1 21 [(0, .ref 0), (1, .int 21), (2, .int b)] [.int 1] s_M0 _
      refine s_ek_bk 2 (P := 25) (ls' := [(0, .ref 0), (1, .int 21), (2, .int b)]) (st' := [.int b]) (M' := s_M0) rfl ?_
      refine s_ek_call (ν := s_e174.1) (P := 28) (as := [.int b]) (r := []) (fun _ => rfl) rfl ?_
      show s_Ek (s_rows 3 L xs) 1298 s_e174.1 0 [(0, .int b)] [] s_M0 _
      refine s_ek_bk 1 (P := 1) (ls' := [(0, .int b)]) (st' := [.int b]) (M' := s_M0) rfl ?_
      refine s_ek_if1 (T := 9) rfl rfl (fun h5 => ?_) (fun h5 => ?_)
      · replace h5 : b.toInt = 0 := h5
        omega
      · replace h5 : ¬ (b.toInt = 0) := h5
        replace h5 : ¬ b.toInt = 0 := by omega
        refine s_ek_bk 2 (P := 6) (ls' := [(0, .int b)]) (st' := [.int 1, .int b]) (M' := s_M0) rfl ?_
        refine s_ek_if2 (T := 13) rfl rfl (fun h6 => ?_) (fun h6 => ?_)
        · replace h6 : ¬ b.toInt = 1 := h6
          refine s_ek_bk 1 (P := 14) (ls' := [(0, .int b)]) (st' := [.int 0]) (M' := s_M0) rfl ?_
          refine s_ek_ret (o := some (.int 0)) (fun _ => rfl) ?_
          show s_Ek (s_rows 3 L xs) 1299 s_e153.1 28 [(0, .ref 0), (1, .int 21), (2, .int b)] [.int 0] s_M0 _
          refine s_ek_bk 2 (P := 32) (ls' := [(0, .ref 0), (1, .int 21), (2, .int b)]) (st' := [.int (-1)]) (M' := s_M0) rfl ?_
          refine s_ek_ret (o := some (.int (-1))) (fun _ => rfl) ?_
          refine ⟨(-1), rfl, ?_⟩
          show s_Ek (s_rows 3 L xs) 1299 s_e257.1 0 [(0, .ref 151), (1, .int 21), (2, .int b)] [] s_M0 _
          refine s_ek_bk 15 (P := 23) (ls' := [(0, .ref 151), (1, .int 21), (2, .int b)]) (st' := [.int 1, .int 0, .int b]) (M' := s_M0) rfl ?_
          refine s_ek_call (ν := s_e181.1) (P := 26) (as := [.int b, .int 0, .int 1]) (r := []) (fun _ => rfl) rfl ?_
          show s_Ek (s_rows 3 L xs) 1298 s_e181.1 0 [(0, .int b), (1, .int 0), (2, .int 1)] [] s_M0 _
          refine s_ek_bk 2 (P := 2) (ls' := [(0, .int b), (1, .int 0), (2, .int 1)]) (st' := [.int 0, .int b]) (M' := s_M0) rfl ?_
          refine s_ek_if2 (T := 14) rfl rfl (fun h7 => ?_) (fun h7 => ?_)
          · replace h7 : b.toInt < 0 := h7
            omega
          · replace h7 : ¬ (b.toInt < 0) := h7
            replace h7 : 0 ≤ b.toInt := by omega
            refine s_ek_bk 2 (P := 7) (ls' := [(0, .int b), (1, .int 0), (2, .int 1)]) (st' := [.int 1, .int b]) (M' := s_M0) rfl ?_
            refine s_ek_if2 (T := 14) rfl rfl (fun h8 => ?_) (fun h8 => ?_)
            · replace h8 : 1 < b.toInt := h8
              refine s_ek_bk 1 (P := 15) (ls' := [(0, .int b), (1, .int 0), (2, .int 1)]) (st' := [.int 0]) (M' := s_M0) rfl ?_
              refine s_ek_ret (o := some (.int 0)) (fun _ => rfl) ?_
              show s_Ek (s_rows 3 L xs) 1299 s_e257.1 26 [(0, .ref 151), (1, .int 21), (2, .int b)] [.int 0] s_M0 _
              refine s_ek_bk 2 (P := 30) (ls' := [(0, .ref 151), (1, .int 21), (2, .int b)]) (st' := [.int (-1)]) (M' := s_M0) rfl ?_
              refine s_ek_ret (o := some (.int (-1))) (fun _ => rfl) ?_
              exact rfl
            · replace h8 : ¬ (1 < b.toInt) := h8
              replace h8 : b.toInt ≤ 1 := by omega
              omega
        · replace h6 : ¬ (¬ b.toInt = 1) := h6
          replace h6 : b.toInt = 1 := by omega
          omega
    rcases s_rg_0_1 h3 h4 with rfl | rfl
    · exact s_ek_run s_El_rows s_clj_84 ⟨0, rfl, s_ek_run s_El_rows s_clj_85 rfl⟩
    · exact s_ek_run s_El_rows s_clj_86 ⟨(-2), rfl, s_ek_run s_El_rows s_clj_87 rfl⟩
  · rcases Int.lt_or_le b.toInt 0 with h3 | h3
    · show s_Ek (s_rows 3 L xs) 1299 s_e153.1 0 [(0, .ref 0), (1, .int 22), (2, .int b)] [] s_M0 _
      refine s_ek_bk 5 (P := 8) (ls' := [(0, .ref 0), (1, .int 22), (2, .int b)]) (st' := [.int 2]) (M' := s_M0) rfl ?_
      refine s_ek_call (ν := s_e173.1) (P := 11) (as := [.int 2]) (r := []) (fun _ => rfl) rfl ?_
      show s_Ek (s_rows 3 L xs) 1298 s_e173.1 0 [(0, .int 2)] [] s_M0 _
      refine s_ek_bk 7 (P := 14) (ls' := [(0, .int 2)]) (st' := [.int 1]) (M' := s_M0) rfl ?_
      refine s_ek_ret (o := some (.int 1)) (fun _ => rfl) ?_
      show s_Ek (s_rows 3 L xs) 1299 s_e153.1 11 [(0, .ref 0), (1, .int 22), (2, .int b)] [.int 1] s_M0 _
      refine s_ek_bk 4 (P := 18) (ls' := [(0, .ref 0), (1, .int 22), (2, .int b)]) (st' := [.int 2]) (M' := s_M0) rfl ?_
      refine s_ek_call (ν := s_e173.1) (P := 21) (as := [.int 2]) (r := []) (fun _ => rfl) rfl ?_
      show s_Ek (s_rows 3 L xs) 1298 s_e173.1 0 [(0, .int 2)] [] s_M0 _
      refine s_ek_bk 7 (P := 14) (ls' := [(0, .int 2)]) (st' := [.int 1]) (M' := s_M0) rfl ?_
      refine s_ek_ret (o := some (.int 1)) (fun _ => rfl) ?_
      show s_Ek (s_rows 3 L xs) 1299 s_e153.1 21 [(0, .ref 0), (1, .int 22), (2, .int b)] [.int 1] s_M0 _
      refine s_ek_bk 2 (P := 25) (ls' := [(0, .ref 0), (1, .int 22), (2, .int b)]) (st' := [.int b]) (M' := s_M0) rfl ?_
      refine s_ek_call (ν := s_e174.1) (P := 28) (as := [.int b]) (r := []) (fun _ => rfl) rfl ?_
      show s_Ek (s_rows 3 L xs) 1298 s_e174.1 0 [(0, .int b)] [] s_M0 _
      refine s_ek_bk 1 (P := 1) (ls' := [(0, .int b)]) (st' := [.int b]) (M' := s_M0) rfl ?_
      refine s_ek_if1 (T := 9) rfl rfl (fun h5 => ?_) (fun h5 => ?_)
      · replace h5 : b.toInt = 0 := h5
        omega
      · replace h5 : ¬ (b.toInt = 0) := h5
        replace h5 : ¬ b.toInt = 0 := by omega
        refine s_ek_bk 2 (P := 6) (ls' := [(0, .int b)]) (st' := [.int 1, .int b]) (M' := s_M0) rfl ?_
        refine s_ek_if2 (T := 13) rfl rfl (fun h6 => ?_) (fun h6 => ?_)
        · replace h6 : ¬ b.toInt = 1 := h6
          refine s_ek_bk 1 (P := 14) (ls' := [(0, .int b)]) (st' := [.int 0]) (M' := s_M0) rfl ?_
          refine s_ek_ret (o := some (.int 0)) (fun _ => rfl) ?_
          show s_Ek (s_rows 3 L xs) 1299 s_e153.1 28 [(0, .ref 0), (1, .int 22), (2, .int b)] [.int 0] s_M0 _
          refine s_ek_bk 2 (P := 32) (ls' := [(0, .ref 0), (1, .int 22), (2, .int b)]) (st' := [.int (-1)]) (M' := s_M0) rfl ?_
          refine s_ek_ret (o := some (.int (-1))) (fun _ => rfl) ?_
          refine ⟨(-1), rfl, ?_⟩
          show s_Ek (s_rows 3 L xs) 1299 s_e257.1 0 [(0, .ref 151), (1, .int 22), (2, .int b)] [] s_M0 _
          refine s_ek_bk 15 (P := 23) (ls' := [(0, .ref 151), (1, .int 22), (2, .int b)]) (st' := [.int 1, .int 0, .int b]) (M' := s_M0) rfl ?_
          refine s_ek_call (ν := s_e181.1) (P := 26) (as := [.int b, .int 0, .int 1]) (r := []) (fun _ => rfl) rfl ?_
          show s_Ek (s_rows 3 L xs) 1298 s_e181.1 0 [(0, .int b), (1, .int 0), (2, .int 1)] [] s_M0 _
          refine s_ek_bk 2 (P := 2) (ls' := [(0, .int b), (1, .int 0), (2, .int 1)]) (st' := [.int 0, .int b]) (M' := s_M0) rfl ?_
          refine s_ek_if2 (T := 14) rfl rfl (fun h7 => ?_) (fun h7 => ?_)
          · replace h7 : b.toInt < 0 := h7
            refine s_ek_bk 1 (P := 15) (ls' := [(0, .int b), (1, .int 0), (2, .int 1)]) (st' := [.int 0]) (M' := s_M0) rfl ?_
            refine s_ek_ret (o := some (.int 0)) (fun _ => rfl) ?_
            show s_Ek (s_rows 3 L xs) 1299 s_e257.1 26 [(0, .ref 151), (1, .int 22), (2, .int b)] [.int 0] s_M0 _
            refine s_ek_bk 2 (P := 30) (ls' := [(0, .ref 151), (1, .int 22), (2, .int b)]) (st' := [.int (-1)]) (M' := s_M0) rfl ?_
            refine s_ek_ret (o := some (.int (-1))) (fun _ => rfl) ?_
            exact rfl
          · replace h7 : ¬ (b.toInt < 0) := h7
            replace h7 : 0 ≤ b.toInt := by omega
            omega
        · replace h6 : ¬ (¬ b.toInt = 1) := h6
          replace h6 : b.toInt = 1 := by omega
          omega
    rcases Int.lt_or_le 1 b.toInt with h4 | h4
    · show s_Ek (s_rows 3 L xs) 1299 s_e153.1 0 [(0, .ref 0), (1, .int 22), (2, .int b)] [] s_M0 _
      refine s_ek_bk 5 (P := 8) (ls' := [(0, .ref 0), (1, .int 22), (2, .int b)]) (st' := [.int 2]) (M' := s_M0) rfl ?_
      refine s_ek_call (ν := s_e173.1) (P := 11) (as := [.int 2]) (r := []) (fun _ => rfl) rfl ?_
      show s_Ek (s_rows 3 L xs) 1298 s_e173.1 0 [(0, .int 2)] [] s_M0 _
      refine s_ek_bk 7 (P := 14) (ls' := [(0, .int 2)]) (st' := [.int 1]) (M' := s_M0) rfl ?_
      refine s_ek_ret (o := some (.int 1)) (fun _ => rfl) ?_
      show s_Ek (s_rows 3 L xs) 1299 s_e153.1 11 [(0, .ref 0), (1, .int 22), (2, .int b)] [.int 1] s_M0 _
      refine s_ek_bk 4 (P := 18) (ls' := [(0, .ref 0), (1, .int 22), (2, .int b)]) (st' := [.int 2]) (M' := s_M0) rfl ?_
      refine s_ek_call (ν := s_e173.1) (P := 21) (as := [.int 2]) (r := []) (fun _ => rfl) rfl ?_
      show s_Ek (s_rows 3 L xs) 1298 s_e173.1 0 [(0, .int 2)] [] s_M0 _
      refine s_ek_bk 7 (P := 14) (ls' := [(0, .int 2)]) (st' := [.int 1]) (M' := s_M0) rfl ?_
      refine s_ek_ret (o := some (.int 1)) (fun _ => rfl) ?_
      show s_Ek (s_rows 3 L xs) 1299 s_e153.1 21 [(0, .ref 0), (1, .int 22), (2, .int b)] [.int 1] s_M0 _
      refine s_ek_bk 2 (P := 25) (ls' := [(0, .ref 0), (1, .int 22), (2, .int b)]) (st' := [.int b]) (M' := s_M0) rfl ?_
      refine s_ek_call (ν := s_e174.1) (P := 28) (as := [.int b]) (r := []) (fun _ => rfl) rfl ?_
      show s_Ek (s_rows 3 L xs) 1298 s_e174.1 0 [(0, .int b)] [] s_M0 _
      refine s_ek_bk 1 (P := 1) (ls' := [(0, .int b)]) (st' := [.int b]) (M' := s_M0) rfl ?_
      refine s_ek_if1 (T := 9) rfl rfl (fun h5 => ?_) (fun h5 => ?_)
      · replace h5 : b.toInt = 0 := h5
        omega
      · replace h5 : ¬ (b.toInt = 0) := h5
        replace h5 : ¬ b.toInt = 0 := by omega
        refine s_ek_bk 2 (P := 6) (ls' := [(0, .int b)]) (st' := [.int 1, .int b]) (M' := s_M0) rfl ?_
        refine s_ek_if2 (T := 13) rfl rfl (fun h6 => ?_) (fun h6 => ?_)
        · replace h6 : ¬ b.toInt = 1 := h6
          refine s_ek_bk 1 (P := 14) (ls' := [(0, .int b)]) (st' := [.int 0]) (M' := s_M0) rfl ?_
          refine s_ek_ret (o := some (.int 0)) (fun _ => rfl) ?_
          show s_Ek (s_rows 3 L xs) 1299 s_e153.1 28 [(0, .ref 0), (1, .int 22), (2, .int b)] [.int 0] s_M0 _
          refine s_ek_bk 2 (P := 32) (ls' := [(0, .ref 0), (1, .int 22), (2, .int b)]) (st' := [.int (-1)]) (M' := s_M0) rfl ?_
          refine s_ek_ret (o := some (.int (-1))) (fun _ => rfl) ?_
          refine ⟨(-1), rfl, ?_⟩
          show s_Ek (s_rows 3 L xs) 1299 s_e257.1 0 [(0, .ref 151), (1, .int 22), (2, .int b)] [] s_M0 _
          refine s_ek_bk 15 (P := 23) (ls' := [(0, .ref 151), (1, .int 22), (2, .int b)]) (st' := [.int 1, .int 0, .int b]) (M' := s_M0) rfl ?_
          refine s_ek_call (ν := s_e181.1) (P := 26) (as := [.int b, .int 0, .int 1]) (r := []) (fun _ => rfl) rfl ?_
          show s_Ek (s_rows 3 L xs) 1298 s_e181.1 0 [(0, .int b), (1, .int 0), (2, .int 1)] [] s_M0 _
          refine s_ek_bk 2 (P := 2) (ls' := [(0, .int b), (1, .int 0), (2, .int 1)]) (st' := [.int 0, .int b]) (M' := s_M0) rfl ?_
          refine s_ek_if2 (T := 14) rfl rfl (fun h7 => ?_) (fun h7 => ?_)
          · replace h7 : b.toInt < 0 := h7
            omega
          · replace h7 : ¬ (b.toInt < 0) := h7
            replace h7 : 0 ≤ b.toInt := by omega
            refine s_ek_bk 2 (P := 7) (ls' := [(0, .int b), (1, .int 0), (2, .int 1)]) (st' := [.int 1, .int b]) (M' := s_M0) rfl ?_
            refine s_ek_if2 (T := 14) rfl rfl (fun h8 => ?_) (fun h8 => ?_)
            · replace h8 : 1 < b.toInt := h8
              refine s_ek_bk 1 (P := 15) (ls' := [(0, .int b), (1, .int 0), (2, .int 1)]) (st' := [.int 0]) (M' := s_M0) rfl ?_
              refine s_ek_ret (o := some (.int 0)) (fun _ => rfl) ?_
              show s_Ek (s_rows 3 L xs) 1299 s_e257.1 26 [(0, .ref 151), (1, .int 22), (2, .int b)] [.int 0] s_M0 _
              refine s_ek_bk 2 (P := 30) (ls' := [(0, .ref 151), (1, .int 22), (2, .int b)]) (st' := [.int (-1)]) (M' := s_M0) rfl ?_
              refine s_ek_ret (o := some (.int (-1))) (fun _ => rfl) ?_
              exact rfl
            · replace h8 : ¬ (1 < b.toInt) := h8
              replace h8 : b.toInt ≤ 1 := by omega
              omega
        · replace h6 : ¬ (¬ b.toInt = 1) := h6
          replace h6 : b.toInt = 1 := by omega
          omega
    rcases s_rg_0_1 h3 h4 with rfl | rfl
    · exact s_ek_run s_El_rows s_clj_88 ⟨0, rfl, s_ek_run s_El_rows s_clj_89 rfl⟩
    · exact s_ek_run s_El_rows s_clj_90 ⟨(-2), rfl, s_ek_run s_El_rows s_clj_91 rfl⟩
  · rcases Int.lt_or_le b.toInt 0 with h3 | h3
    · show s_Ek (s_rows 3 L xs) 1299 s_e153.1 0 [(0, .ref 0), (1, .int 23), (2, .int b)] [] s_M0 _
      refine s_ek_bk 5 (P := 8) (ls' := [(0, .ref 0), (1, .int 23), (2, .int b)]) (st' := [.int 2]) (M' := s_M0) rfl ?_
      refine s_ek_call (ν := s_e173.1) (P := 11) (as := [.int 2]) (r := []) (fun _ => rfl) rfl ?_
      show s_Ek (s_rows 3 L xs) 1298 s_e173.1 0 [(0, .int 2)] [] s_M0 _
      refine s_ek_bk 7 (P := 14) (ls' := [(0, .int 2)]) (st' := [.int 1]) (M' := s_M0) rfl ?_
      refine s_ek_ret (o := some (.int 1)) (fun _ => rfl) ?_
      show s_Ek (s_rows 3 L xs) 1299 s_e153.1 11 [(0, .ref 0), (1, .int 23), (2, .int b)] [.int 1] s_M0 _
      refine s_ek_bk 4 (P := 18) (ls' := [(0, .ref 0), (1, .int 23), (2, .int b)]) (st' := [.int 3]) (M' := s_M0) rfl ?_
      refine s_ek_call (ν := s_e173.1) (P := 21) (as := [.int 3]) (r := []) (fun _ => rfl) rfl ?_
      show s_Ek (s_rows 3 L xs) 1298 s_e173.1 0 [(0, .int 3)] [] s_M0 _
      refine s_ek_bk 7 (P := 14) (ls' := [(0, .int 3)]) (st' := [.int 1]) (M' := s_M0) rfl ?_
      refine s_ek_ret (o := some (.int 1)) (fun _ => rfl) ?_
      show s_Ek (s_rows 3 L xs) 1299 s_e153.1 21 [(0, .ref 0), (1, .int 23), (2, .int b)] [.int 1] s_M0 _
      refine s_ek_bk 2 (P := 25) (ls' := [(0, .ref 0), (1, .int 23), (2, .int b)]) (st' := [.int b]) (M' := s_M0) rfl ?_
      refine s_ek_call (ν := s_e174.1) (P := 28) (as := [.int b]) (r := []) (fun _ => rfl) rfl ?_
      show s_Ek (s_rows 3 L xs) 1298 s_e174.1 0 [(0, .int b)] [] s_M0 _
      refine s_ek_bk 1 (P := 1) (ls' := [(0, .int b)]) (st' := [.int b]) (M' := s_M0) rfl ?_
      refine s_ek_if1 (T := 9) rfl rfl (fun h5 => ?_) (fun h5 => ?_)
      · replace h5 : b.toInt = 0 := h5
        omega
      · replace h5 : ¬ (b.toInt = 0) := h5
        replace h5 : ¬ b.toInt = 0 := by omega
        refine s_ek_bk 2 (P := 6) (ls' := [(0, .int b)]) (st' := [.int 1, .int b]) (M' := s_M0) rfl ?_
        refine s_ek_if2 (T := 13) rfl rfl (fun h6 => ?_) (fun h6 => ?_)
        · replace h6 : ¬ b.toInt = 1 := h6
          refine s_ek_bk 1 (P := 14) (ls' := [(0, .int b)]) (st' := [.int 0]) (M' := s_M0) rfl ?_
          refine s_ek_ret (o := some (.int 0)) (fun _ => rfl) ?_
          show s_Ek (s_rows 3 L xs) 1299 s_e153.1 28 [(0, .ref 0), (1, .int 23), (2, .int b)] [.int 0] s_M0 _
          refine s_ek_bk 2 (P := 32) (ls' := [(0, .ref 0), (1, .int 23), (2, .int b)]) (st' := [.int (-1)]) (M' := s_M0) rfl ?_
          refine s_ek_ret (o := some (.int (-1))) (fun _ => rfl) ?_
          refine ⟨(-1), rfl, ?_⟩
          show s_Ek (s_rows 3 L xs) 1299 s_e257.1 0 [(0, .ref 151), (1, .int 23), (2, .int b)] [] s_M0 _
          refine s_ek_bk 15 (P := 23) (ls' := [(0, .ref 151), (1, .int 23), (2, .int b)]) (st' := [.int 1, .int 0, .int b]) (M' := s_M0) rfl ?_
          refine s_ek_call (ν := s_e181.1) (P := 26) (as := [.int b, .int 0, .int 1]) (r := []) (fun _ => rfl) rfl ?_
          show s_Ek (s_rows 3 L xs) 1298 s_e181.1 0 [(0, .int b), (1, .int 0), (2, .int 1)] [] s_M0 _
          refine s_ek_bk 2 (P := 2) (ls' := [(0, .int b), (1, .int 0), (2, .int 1)]) (st' := [.int 0, .int b]) (M' := s_M0) rfl ?_
          refine s_ek_if2 (T := 14) rfl rfl (fun h7 => ?_) (fun h7 => ?_)
          · replace h7 : b.toInt < 0 := h7
            refine s_ek_bk 1 (P := 15) (ls' := [(0, .int b), (1, .int 0), (2, .int 1)]) (st' := [.int 0]) (M' := s_M0) rfl ?_
            refine s_ek_ret (o := some (.int 0)) (fun _ => rfl) ?_
            show s_Ek (s_rows 3 L xs) 1299 s_e257.1 26 [(0, .ref 151), (1, .int 23), (2, .int b)] [.int 0] s_M0 _
            refine s_ek_bk 2 (P := 30) (ls' := [(0, .ref 151), (1, .int 23), (2, .int b)]) (st' := [.int (-1)]) (M' := s_M0) rfl ?_
            refine s_ek_ret (o := some (.int (-1))) (fun _ => rfl) ?_
            exact rfl
          · replace h7 : ¬ (b.toInt < 0) := h7
            replace h7 : 0 ≤ b.toInt := by omega
            omega
        · replace h6 : ¬ (¬ b.toInt = 1) := h6
          replace h6 : b.toInt = 1 := by omega
          omega
    rcases Int.lt_or_le 1 b.toInt with h4 | h4
    · show s_Ek (s_rows 3 L xs) 1299 s_e153.1 0 [(0, .ref 0), (1, .int 23), (2, .int b)] [] s_M0 _
      refine s_ek_bk 5 (P := 8) (ls' := [(0, .ref 0), (1, .int 23), (2, .int b)]) (st' := [.int 2]) (M' := s_M0) rfl ?_
      refine s_ek_call (ν := s_e173.1) (P := 11) (as := [.int 2]) (r := []) (fun _ => rfl) rfl ?_
      show s_Ek (s_rows 3 L xs) 1298 s_e173.1 0 [(0, .int 2)] [] s_M0 _
      refine s_ek_bk 7 (P := 14) (ls' := [(0, .int 2)]) (st' := [.int 1]) (M' := s_M0) rfl ?_
      refine s_ek_ret (o := some (.int 1)) (fun _ => rfl) ?_
      show s_Ek (s_rows 3 L xs) 1299 s_e153.1 11 [(0, .ref 0), (1, .int 23), (2, .int b)] [.int 1] s_M0 _
      refine s_ek_bk 4 (P := 18) (ls' := [(0, .ref 0), (1, .int 23), (2, .int b)]) (st' := [.int 3]) (M' := s_M0) rfl ?_
      refine s_ek_call (ν := s_e173.1) (P := 21) (as := [.int 3]) (r := []) (fun _ => rfl) rfl ?_
      show s_Ek (s_rows 3 L xs) 1298 s_e173.1 0 [(0, .int 3)] [] s_M0 _
      refine s_ek_bk 7 (P := 14) (ls' := [(0, .int 3)]) (st' := [.int 1]) (M' := s_M0) rfl ?_
      refine s_ek_ret (o := some (.int 1)) (fun _ => rfl) ?_
      show s_Ek (s_rows 3 L xs) 1299 s_e153.1 21 [(0, .ref 0), (1, .int 23), (2, .int b)] [.int 1] s_M0 _
      refine s_ek_bk 2 (P := 25) (ls' := [(0, .ref 0), (1, .int 23), (2, .int b)]) (st' := [.int b]) (M' := s_M0) rfl ?_
      refine s_ek_call (ν := s_e174.1) (P := 28) (as := [.int b]) (r := []) (fun _ => rfl) rfl ?_
      show s_Ek (s_rows 3 L xs) 1298 s_e174.1 0 [(0, .int b)] [] s_M0 _
      refine s_ek_bk 1 (P := 1) (ls' := [(0, .int b)]) (st' := [.int b]) (M' := s_M0) rfl ?_
      refine s_ek_if1 (T := 9) rfl rfl (fun h5 => ?_) (fun h5 => ?_)
      · replace h5 : b.toInt = 0 := h5
        omega
      · replace h5 : ¬ (b.toInt = 0) := h5
        replace h5 : ¬ b.toInt = 0 := by omega
        refine s_ek_bk 2 (P := 6) (ls' := [(0, .int b)]) (st' := [.int 1, .int b]) (M' := s_M0) rfl ?_
        refine s_ek_if2 (T := 13) rfl rfl (fun h6 => ?_) (fun h6 => ?_)
        · replace h6 : ¬ b.toInt = 1 := h6
          refine s_ek_bk 1 (P := 14) (ls' := [(0, .int b)]) (st' := [.int 0]) (M' := s_M0) rfl ?_
          refine s_ek_ret (o := some (.int 0)) (fun _ => rfl) ?_
          show s_Ek (s_rows 3 L xs) 1299 s_e153.1 28 [(0, .ref 0), (1, .int 23), (2, .int b)] [.int 0] s_M0 _
          refine s_ek_bk 2 (P := 32) (ls' := [(0, .ref 0), (1, .int 23), (2, .int b)]) (st' := [.int (-1)]) (M' := s_M0) rfl ?_
          refine s_ek_ret (o := some (.int (-1))) (fun _ => rfl) ?_
          refine ⟨(-1), rfl, ?_⟩
          show s_Ek (s_rows 3 L xs) 1299 s_e257.1 0 [(0, .ref 151), (1, .int 23), (2, .int b)] [] s_M0 _
          refine s_ek_bk 15 (P := 23) (ls' := [(0, .ref 151), (1, .int 23), (2, .int b)]) (st' := [.int 1, .int 0, .int b]) (M' := s_M0) rfl ?_
          refine s_ek_call (ν := s_e181.1) (P := 26) (as := [.int b, .int 0, .int 1]) (r := []) (fun _ => rfl) rfl ?_
          show s_Ek (s_rows 3 L xs) 1298 s_e181.1 0 [(0, .int b), (1, .int 0), (2, .int 1)] [] s_M0 _
          refine s_ek_bk 2 (P := 2) (ls' := [(0, .int b), (1, .int 0), (2, .int 1)]) (st' := [.int 0, .int b]) (M' := s_M0) rfl ?_
          refine s_ek_if2 (T := 14) rfl rfl (fun h7 => ?_) (fun h7 => ?_)
          · replace h7 : b.toInt < 0 := h7
            omega
          · replace h7 : ¬ (b.toInt < 0) := h7
            replace h7 : 0 ≤ b.toInt := by omega
            refine s_ek_bk 2 (P := 7) (ls' := [(0, .int b), (1, .int 0), (2, .int 1)]) (st' := [.int 1, .int b]) (M' := s_M0) rfl ?_
            refine s_ek_if2 (T := 14) rfl rfl (fun h8 => ?_) (fun h8 => ?_)
            · replace h8 : 1 < b.toInt := h8
              refine s_ek_bk 1 (P := 15) (ls' := [(0, .int b), (1, .int 0), (2, .int 1)]) (st' := [.int 0]) (M' := s_M0) rfl ?_
              refine s_ek_ret (o := some (.int 0)) (fun _ => rfl) ?_
              show s_Ek (s_rows 3 L xs) 1299 s_e257.1 26 [(0, .ref 151), (1, .int 23), (2, .int b)] [.int 0] s_M0 _
              refine s_ek_bk 2 (P := 30) (ls' := [(0, .ref 151), (1, .int 23), (2, .int b)]) (st' := [.int (-1)]) (M' := s_M0) rfl ?_
              refine s_ek_ret (o := some (.int (-1))) (fun _ => rfl) ?_
              exact rfl
            · replace h8 : ¬ (1 < b.toInt) := h8
              replace h8 : b.toInt ≤ 1 := by omega
              omega
        · replace h6 : ¬ (¬ b.toInt = 1) := h6
          replace h6 : b.toInt = 1 := by omega
          omega
    rcases s_rg_0_1 h3 h4 with rfl | rfl
    · exact s_ek_run s_El_rows s_clj_92 ⟨0, rfl, s_ek_run s_El_rows s_clj_93 rfl⟩
    · exact s_ek_run s_El_rows s_clj_94 ⟨(-2), rfl, s_ek_run s_El_rows s_clj_95 rfl⟩
  · rcases Int.lt_or_le b.toInt 0 with h3 | h3
    · show s_Ek (s_rows 3 L xs) 1299 s_e153.1 0 [(0, .ref 0), (1, .int 24), (2, .int b)] [] s_M0 _
      refine s_ek_bk 5 (P := 8) (ls' := [(0, .ref 0), (1, .int 24), (2, .int b)]) (st' := [.int 2]) (M' := s_M0) rfl ?_
      refine s_ek_call (ν := s_e173.1) (P := 11) (as := [.int 2]) (r := []) (fun _ => rfl) rfl ?_
      show s_Ek (s_rows 3 L xs) 1298 s_e173.1 0 [(0, .int 2)] [] s_M0 _
      refine s_ek_bk 7 (P := 14) (ls' := [(0, .int 2)]) (st' := [.int 1]) (M' := s_M0) rfl ?_
      refine s_ek_ret (o := some (.int 1)) (fun _ => rfl) ?_
      show s_Ek (s_rows 3 L xs) 1299 s_e153.1 11 [(0, .ref 0), (1, .int 24), (2, .int b)] [.int 1] s_M0 _
      refine s_ek_bk 4 (P := 18) (ls' := [(0, .ref 0), (1, .int 24), (2, .int b)]) (st' := [.int 4]) (M' := s_M0) rfl ?_
      refine s_ek_call (ν := s_e173.1) (P := 21) (as := [.int 4]) (r := []) (fun _ => rfl) rfl ?_
      show s_Ek (s_rows 3 L xs) 1298 s_e173.1 0 [(0, .int 4)] [] s_M0 _
      refine s_ek_bk 6 (P := 14) (ls' := [(0, .int 4)]) (st' := [.int 0]) (M' := s_M0) rfl ?_
      refine s_ek_ret (o := some (.int 0)) (fun _ => rfl) ?_
      show s_Ek (s_rows 3 L xs) 1299 s_e153.1 21 [(0, .ref 0), (1, .int 24), (2, .int b)] [.int 0] s_M0 _
      refine s_ek_bk 2 (P := 32) (ls' := [(0, .ref 0), (1, .int 24), (2, .int b)]) (st' := [.int (-1)]) (M' := s_M0) rfl ?_
      refine s_ek_ret (o := some (.int (-1))) (fun _ => rfl) ?_
      refine ⟨(-1), rfl, ?_⟩
      show s_Ek (s_rows 3 L xs) 1299 s_e257.1 0 [(0, .ref 151), (1, .int 24), (2, .int b)] [] s_M0 _
      refine s_ek_bk 13 (P := 30) (ls' := [(0, .ref 151), (1, .int 24), (2, .int b)]) (st' := [.int (-1)]) (M' := s_M0) rfl ?_
      refine s_ek_ret (o := some (.int (-1))) (fun _ => rfl) ?_
      exact rfl
    rcases Int.lt_or_le 1 b.toInt with h4 | h4
    · show s_Ek (s_rows 3 L xs) 1299 s_e153.1 0 [(0, .ref 0), (1, .int 24), (2, .int b)] [] s_M0 _
      refine s_ek_bk 5 (P := 8) (ls' := [(0, .ref 0), (1, .int 24), (2, .int b)]) (st' := [.int 2]) (M' := s_M0) rfl ?_
      refine s_ek_call (ν := s_e173.1) (P := 11) (as := [.int 2]) (r := []) (fun _ => rfl) rfl ?_
      show s_Ek (s_rows 3 L xs) 1298 s_e173.1 0 [(0, .int 2)] [] s_M0 _
      refine s_ek_bk 7 (P := 14) (ls' := [(0, .int 2)]) (st' := [.int 1]) (M' := s_M0) rfl ?_
      refine s_ek_ret (o := some (.int 1)) (fun _ => rfl) ?_
      show s_Ek (s_rows 3 L xs) 1299 s_e153.1 11 [(0, .ref 0), (1, .int 24), (2, .int b)] [.int 1] s_M0 _
      refine s_ek_bk 4 (P := 18) (ls' := [(0, .ref 0), (1, .int 24), (2, .int b)]) (st' := [.int 4]) (M' := s_M0) rfl ?_
      refine s_ek_call (ν := s_e173.1) (P := 21) (as := [.int 4]) (r := []) (fun _ => rfl) rfl ?_
      show s_Ek (s_rows 3 L xs) 1298 s_e173.1 0 [(0, .int 4)] [] s_M0 _
      refine s_ek_bk 6 (P := 14) (ls' := [(0, .int 4)]) (st' := [.int 0]) (M' := s_M0) rfl ?_
      refine s_ek_ret (o := some (.int 0)) (fun _ => rfl) ?_
      show s_Ek (s_rows 3 L xs) 1299 s_e153.1 21 [(0, .ref 0), (1, .int 24), (2, .int b)] [.int 0] s_M0 _
      refine s_ek_bk 2 (P := 32) (ls' := [(0, .ref 0), (1, .int 24), (2, .int b)]) (st' := [.int (-1)]) (M' := s_M0) rfl ?_
      refine s_ek_ret (o := some (.int (-1))) (fun _ => rfl) ?_
      refine ⟨(-1), rfl, ?_⟩
      show s_Ek (s_rows 3 L xs) 1299 s_e257.1 0 [(0, .ref 151), (1, .int 24), (2, .int b)] [] s_M0 _
      refine s_ek_bk 13 (P := 30) (ls' := [(0, .ref 151), (1, .int 24), (2, .int b)]) (st' := [.int (-1)]) (M' := s_M0) rfl ?_
      refine s_ek_ret (o := some (.int (-1))) (fun _ => rfl) ?_
      exact rfl
    rcases s_rg_0_1 h3 h4 with rfl | rfl
    · exact s_ek_run s_El_rows s_clj_96 ⟨(-1), rfl, s_ek_run s_El_rows s_clj_97 rfl⟩
    · exact s_ek_run s_El_rows s_clj_98 ⟨(-1), rfl, s_ek_run s_El_rows s_clj_99 rfl⟩
  · rcases Int.lt_or_le b.toInt 0 with h3 | h3
    · show s_Ek (s_rows 3 L xs) 1299 s_e153.1 0 [(0, .ref 0), (1, .int 25), (2, .int b)] [] s_M0 _
      refine s_ek_bk 5 (P := 8) (ls' := [(0, .ref 0), (1, .int 25), (2, .int b)]) (st' := [.int 2]) (M' := s_M0) rfl ?_
      refine s_ek_call (ν := s_e173.1) (P := 11) (as := [.int 2]) (r := []) (fun _ => rfl) rfl ?_
      show s_Ek (s_rows 3 L xs) 1298 s_e173.1 0 [(0, .int 2)] [] s_M0 _
      refine s_ek_bk 7 (P := 14) (ls' := [(0, .int 2)]) (st' := [.int 1]) (M' := s_M0) rfl ?_
      refine s_ek_ret (o := some (.int 1)) (fun _ => rfl) ?_
      show s_Ek (s_rows 3 L xs) 1299 s_e153.1 11 [(0, .ref 0), (1, .int 25), (2, .int b)] [.int 1] s_M0 _
      refine s_ek_bk 4 (P := 18) (ls' := [(0, .ref 0), (1, .int 25), (2, .int b)]) (st' := [.int 5]) (M' := s_M0) rfl ?_
      refine s_ek_call (ν := s_e173.1) (P := 21) (as := [.int 5]) (r := []) (fun _ => rfl) rfl ?_
      show s_Ek (s_rows 3 L xs) 1298 s_e173.1 0 [(0, .int 5)] [] s_M0 _
      refine s_ek_bk 6 (P := 14) (ls' := [(0, .int 5)]) (st' := [.int 0]) (M' := s_M0) rfl ?_
      refine s_ek_ret (o := some (.int 0)) (fun _ => rfl) ?_
      show s_Ek (s_rows 3 L xs) 1299 s_e153.1 21 [(0, .ref 0), (1, .int 25), (2, .int b)] [.int 0] s_M0 _
      refine s_ek_bk 2 (P := 32) (ls' := [(0, .ref 0), (1, .int 25), (2, .int b)]) (st' := [.int (-1)]) (M' := s_M0) rfl ?_
      refine s_ek_ret (o := some (.int (-1))) (fun _ => rfl) ?_
      refine ⟨(-1), rfl, ?_⟩
      show s_Ek (s_rows 3 L xs) 1299 s_e257.1 0 [(0, .ref 151), (1, .int 25), (2, .int b)] [] s_M0 _
      refine s_ek_bk 13 (P := 30) (ls' := [(0, .ref 151), (1, .int 25), (2, .int b)]) (st' := [.int (-1)]) (M' := s_M0) rfl ?_
      refine s_ek_ret (o := some (.int (-1))) (fun _ => rfl) ?_
      exact rfl
    rcases Int.lt_or_le 1 b.toInt with h4 | h4
    · show s_Ek (s_rows 3 L xs) 1299 s_e153.1 0 [(0, .ref 0), (1, .int 25), (2, .int b)] [] s_M0 _
      refine s_ek_bk 5 (P := 8) (ls' := [(0, .ref 0), (1, .int 25), (2, .int b)]) (st' := [.int 2]) (M' := s_M0) rfl ?_
      refine s_ek_call (ν := s_e173.1) (P := 11) (as := [.int 2]) (r := []) (fun _ => rfl) rfl ?_
      show s_Ek (s_rows 3 L xs) 1298 s_e173.1 0 [(0, .int 2)] [] s_M0 _
      refine s_ek_bk 7 (P := 14) (ls' := [(0, .int 2)]) (st' := [.int 1]) (M' := s_M0) rfl ?_
      refine s_ek_ret (o := some (.int 1)) (fun _ => rfl) ?_
      show s_Ek (s_rows 3 L xs) 1299 s_e153.1 11 [(0, .ref 0), (1, .int 25), (2, .int b)] [.int 1] s_M0 _
      refine s_ek_bk 4 (P := 18) (ls' := [(0, .ref 0), (1, .int 25), (2, .int b)]) (st' := [.int 5]) (M' := s_M0) rfl ?_
      refine s_ek_call (ν := s_e173.1) (P := 21) (as := [.int 5]) (r := []) (fun _ => rfl) rfl ?_
      show s_Ek (s_rows 3 L xs) 1298 s_e173.1 0 [(0, .int 5)] [] s_M0 _
      refine s_ek_bk 6 (P := 14) (ls' := [(0, .int 5)]) (st' := [.int 0]) (M' := s_M0) rfl ?_
      refine s_ek_ret (o := some (.int 0)) (fun _ => rfl) ?_
      show s_Ek (s_rows 3 L xs) 1299 s_e153.1 21 [(0, .ref 0), (1, .int 25), (2, .int b)] [.int 0] s_M0 _
      refine s_ek_bk 2 (P := 32) (ls' := [(0, .ref 0), (1, .int 25), (2, .int b)]) (st' := [.int (-1)]) (M' := s_M0) rfl ?_
      refine s_ek_ret (o := some (.int (-1))) (fun _ => rfl) ?_
      refine ⟨(-1), rfl, ?_⟩
      show s_Ek (s_rows 3 L xs) 1299 s_e257.1 0 [(0, .ref 151), (1, .int 25), (2, .int b)] [] s_M0 _
      refine s_ek_bk 13 (P := 30) (ls' := [(0, .ref 151), (1, .int 25), (2, .int b)]) (st' := [.int (-1)]) (M' := s_M0) rfl ?_
      refine s_ek_ret (o := some (.int (-1))) (fun _ => rfl) ?_
      exact rfl
    rcases s_rg_0_1 h3 h4 with rfl | rfl
    · exact s_ek_run s_El_rows s_clj_100 ⟨(-1), rfl, s_ek_run s_El_rows s_clj_101 rfl⟩
    · exact s_ek_run s_El_rows s_clj_102 ⟨(-1), rfl, s_ek_run s_El_rows s_clj_103 rfl⟩
  · rcases Int.lt_or_le b.toInt 0 with h3 | h3
    · show s_Ek (s_rows 3 L xs) 1299 s_e153.1 0 [(0, .ref 0), (1, .int 26), (2, .int b)] [] s_M0 _
      refine s_ek_bk 5 (P := 8) (ls' := [(0, .ref 0), (1, .int 26), (2, .int b)]) (st' := [.int 2]) (M' := s_M0) rfl ?_
      refine s_ek_call (ν := s_e173.1) (P := 11) (as := [.int 2]) (r := []) (fun _ => rfl) rfl ?_
      show s_Ek (s_rows 3 L xs) 1298 s_e173.1 0 [(0, .int 2)] [] s_M0 _
      refine s_ek_bk 7 (P := 14) (ls' := [(0, .int 2)]) (st' := [.int 1]) (M' := s_M0) rfl ?_
      refine s_ek_ret (o := some (.int 1)) (fun _ => rfl) ?_
      show s_Ek (s_rows 3 L xs) 1299 s_e153.1 11 [(0, .ref 0), (1, .int 26), (2, .int b)] [.int 1] s_M0 _
      refine s_ek_bk 4 (P := 18) (ls' := [(0, .ref 0), (1, .int 26), (2, .int b)]) (st' := [.int 6]) (M' := s_M0) rfl ?_
      refine s_ek_call (ν := s_e173.1) (P := 21) (as := [.int 6]) (r := []) (fun _ => rfl) rfl ?_
      show s_Ek (s_rows 3 L xs) 1298 s_e173.1 0 [(0, .int 6)] [] s_M0 _
      refine s_ek_bk 6 (P := 14) (ls' := [(0, .int 6)]) (st' := [.int 0]) (M' := s_M0) rfl ?_
      refine s_ek_ret (o := some (.int 0)) (fun _ => rfl) ?_
      show s_Ek (s_rows 3 L xs) 1299 s_e153.1 21 [(0, .ref 0), (1, .int 26), (2, .int b)] [.int 0] s_M0 _
      refine s_ek_bk 2 (P := 32) (ls' := [(0, .ref 0), (1, .int 26), (2, .int b)]) (st' := [.int (-1)]) (M' := s_M0) rfl ?_
      refine s_ek_ret (o := some (.int (-1))) (fun _ => rfl) ?_
      refine ⟨(-1), rfl, ?_⟩
      show s_Ek (s_rows 3 L xs) 1299 s_e257.1 0 [(0, .ref 151), (1, .int 26), (2, .int b)] [] s_M0 _
      refine s_ek_bk 13 (P := 30) (ls' := [(0, .ref 151), (1, .int 26), (2, .int b)]) (st' := [.int (-1)]) (M' := s_M0) rfl ?_
      refine s_ek_ret (o := some (.int (-1))) (fun _ => rfl) ?_
      exact rfl
    rcases Int.lt_or_le 1 b.toInt with h4 | h4
    · show s_Ek (s_rows 3 L xs) 1299 s_e153.1 0 [(0, .ref 0), (1, .int 26), (2, .int b)] [] s_M0 _
      refine s_ek_bk 5 (P := 8) (ls' := [(0, .ref 0), (1, .int 26), (2, .int b)]) (st' := [.int 2]) (M' := s_M0) rfl ?_
      refine s_ek_call (ν := s_e173.1) (P := 11) (as := [.int 2]) (r := []) (fun _ => rfl) rfl ?_
      show s_Ek (s_rows 3 L xs) 1298 s_e173.1 0 [(0, .int 2)] [] s_M0 _
      refine s_ek_bk 7 (P := 14) (ls' := [(0, .int 2)]) (st' := [.int 1]) (M' := s_M0) rfl ?_
      refine s_ek_ret (o := some (.int 1)) (fun _ => rfl) ?_
      show s_Ek (s_rows 3 L xs) 1299 s_e153.1 11 [(0, .ref 0), (1, .int 26), (2, .int b)] [.int 1] s_M0 _
      refine s_ek_bk 4 (P := 18) (ls' := [(0, .ref 0), (1, .int 26), (2, .int b)]) (st' := [.int 6]) (M' := s_M0) rfl ?_
      refine s_ek_call (ν := s_e173.1) (P := 21) (as := [.int 6]) (r := []) (fun _ => rfl) rfl ?_
      show s_Ek (s_rows 3 L xs) 1298 s_e173.1 0 [(0, .int 6)] [] s_M0 _
      refine s_ek_bk 6 (P := 14) (ls' := [(0, .int 6)]) (st' := [.int 0]) (M' := s_M0) rfl ?_
      refine s_ek_ret (o := some (.int 0)) (fun _ => rfl) ?_
      show s_Ek (s_rows 3 L xs) 1299 s_e153.1 21 [(0, .ref 0), (1, .int 26), (2, .int b)] [.int 0] s_M0 _
      refine s_ek_bk 2 (P := 32) (ls' := [(0, .ref 0), (1, .int 26), (2, .int b)]) (st' := [.int (-1)]) (M' := s_M0) rfl ?_
      refine s_ek_ret (o := some (.int (-1))) (fun _ => rfl) ?_
      refine ⟨(-1), rfl, ?_⟩
      show s_Ek (s_rows 3 L xs) 1299 s_e257.1 0 [(0, .ref 151), (1, .int 26), (2, .int b)] [] s_M0 _
      refine s_ek_bk 13 (P := 30) (ls' := [(0, .ref 151), (1, .int 26), (2, .int b)]) (st' := [.int (-1)]) (M' := s_M0) rfl ?_
      refine s_ek_ret (o := some (.int (-1))) (fun _ => rfl) ?_
      exact rfl
    rcases s_rg_0_1 h3 h4 with rfl | rfl
    · exact s_ek_run s_El_rows s_clj_104 ⟨(-1), rfl, s_ek_run s_El_rows s_clj_105 rfl⟩
    · exact s_ek_run s_El_rows s_clj_106 ⟨(-1), rfl, s_ek_run s_El_rows s_clj_107 rfl⟩
  · rcases Int.lt_or_le b.toInt 0 with h3 | h3
    · show s_Ek (s_rows 3 L xs) 1299 s_e153.1 0 [(0, .ref 0), (1, .int 27), (2, .int b)] [] s_M0 _
      refine s_ek_bk 5 (P := 8) (ls' := [(0, .ref 0), (1, .int 27), (2, .int b)]) (st' := [.int 2]) (M' := s_M0) rfl ?_
      refine s_ek_call (ν := s_e173.1) (P := 11) (as := [.int 2]) (r := []) (fun _ => rfl) rfl ?_
      show s_Ek (s_rows 3 L xs) 1298 s_e173.1 0 [(0, .int 2)] [] s_M0 _
      refine s_ek_bk 7 (P := 14) (ls' := [(0, .int 2)]) (st' := [.int 1]) (M' := s_M0) rfl ?_
      refine s_ek_ret (o := some (.int 1)) (fun _ => rfl) ?_
      show s_Ek (s_rows 3 L xs) 1299 s_e153.1 11 [(0, .ref 0), (1, .int 27), (2, .int b)] [.int 1] s_M0 _
      refine s_ek_bk 4 (P := 18) (ls' := [(0, .ref 0), (1, .int 27), (2, .int b)]) (st' := [.int 7]) (M' := s_M0) rfl ?_
      refine s_ek_call (ν := s_e173.1) (P := 21) (as := [.int 7]) (r := []) (fun _ => rfl) rfl ?_
      show s_Ek (s_rows 3 L xs) 1298 s_e173.1 0 [(0, .int 7)] [] s_M0 _
      refine s_ek_bk 6 (P := 14) (ls' := [(0, .int 7)]) (st' := [.int 0]) (M' := s_M0) rfl ?_
      refine s_ek_ret (o := some (.int 0)) (fun _ => rfl) ?_
      show s_Ek (s_rows 3 L xs) 1299 s_e153.1 21 [(0, .ref 0), (1, .int 27), (2, .int b)] [.int 0] s_M0 _
      refine s_ek_bk 2 (P := 32) (ls' := [(0, .ref 0), (1, .int 27), (2, .int b)]) (st' := [.int (-1)]) (M' := s_M0) rfl ?_
      refine s_ek_ret (o := some (.int (-1))) (fun _ => rfl) ?_
      refine ⟨(-1), rfl, ?_⟩
      show s_Ek (s_rows 3 L xs) 1299 s_e257.1 0 [(0, .ref 151), (1, .int 27), (2, .int b)] [] s_M0 _
      refine s_ek_bk 13 (P := 30) (ls' := [(0, .ref 151), (1, .int 27), (2, .int b)]) (st' := [.int (-1)]) (M' := s_M0) rfl ?_
      refine s_ek_ret (o := some (.int (-1))) (fun _ => rfl) ?_
      exact rfl
    rcases Int.lt_or_le 1 b.toInt with h4 | h4
    · show s_Ek (s_rows 3 L xs) 1299 s_e153.1 0 [(0, .ref 0), (1, .int 27), (2, .int b)] [] s_M0 _
      refine s_ek_bk 5 (P := 8) (ls' := [(0, .ref 0), (1, .int 27), (2, .int b)]) (st' := [.int 2]) (M' := s_M0) rfl ?_
      refine s_ek_call (ν := s_e173.1) (P := 11) (as := [.int 2]) (r := []) (fun _ => rfl) rfl ?_
      show s_Ek (s_rows 3 L xs) 1298 s_e173.1 0 [(0, .int 2)] [] s_M0 _
      refine s_ek_bk 7 (P := 14) (ls' := [(0, .int 2)]) (st' := [.int 1]) (M' := s_M0) rfl ?_
      refine s_ek_ret (o := some (.int 1)) (fun _ => rfl) ?_
      show s_Ek (s_rows 3 L xs) 1299 s_e153.1 11 [(0, .ref 0), (1, .int 27), (2, .int b)] [.int 1] s_M0 _
      refine s_ek_bk 4 (P := 18) (ls' := [(0, .ref 0), (1, .int 27), (2, .int b)]) (st' := [.int 7]) (M' := s_M0) rfl ?_
      refine s_ek_call (ν := s_e173.1) (P := 21) (as := [.int 7]) (r := []) (fun _ => rfl) rfl ?_
      show s_Ek (s_rows 3 L xs) 1298 s_e173.1 0 [(0, .int 7)] [] s_M0 _
      refine s_ek_bk 6 (P := 14) (ls' := [(0, .int 7)]) (st' := [.int 0]) (M' := s_M0) rfl ?_
      refine s_ek_ret (o := some (.int 0)) (fun _ => rfl) ?_
      show s_Ek (s_rows 3 L xs) 1299 s_e153.1 21 [(0, .ref 0), (1, .int 27), (2, .int b)] [.int 0] s_M0 _
      refine s_ek_bk 2 (P := 32) (ls' := [(0, .ref 0), (1, .int 27), (2, .int b)]) (st' := [.int (-1)]) (M' := s_M0) rfl ?_
      refine s_ek_ret (o := some (.int (-1))) (fun _ => rfl) ?_
      refine ⟨(-1), rfl, ?_⟩
      show s_Ek (s_rows 3 L xs) 1299 s_e257.1 0 [(0, .ref 151), (1, .int 27), (2, .int b)] [] s_M0 _
      refine s_ek_bk 13 (P := 30) (ls' := [(0, .ref 151), (1, .int 27), (2, .int b)]) (st' := [.int (-1)]) (M' := s_M0) rfl ?_
      refine s_ek_ret (o := some (.int (-1))) (fun _ => rfl) ?_
      exact rfl
    rcases s_rg_0_1 h3 h4 with rfl | rfl
    · exact s_ek_run s_El_rows s_clj_108 ⟨(-1), rfl, s_ek_run s_El_rows s_clj_109 rfl⟩
    · exact s_ek_run s_El_rows s_clj_110 ⟨(-1), rfl, s_ek_run s_El_rows s_clj_111 rfl⟩
  · rcases Int.lt_or_le b.toInt 0 with h3 | h3
    · show s_Ek (s_rows 3 L xs) 1299 s_e153.1 0 [(0, .ref 0), (1, .int 28), (2, .int b)] [] s_M0 _
      refine s_ek_bk 5 (P := 8) (ls' := [(0, .ref 0), (1, .int 28), (2, .int b)]) (st' := [.int 2]) (M' := s_M0) rfl ?_
      refine s_ek_call (ν := s_e173.1) (P := 11) (as := [.int 2]) (r := []) (fun _ => rfl) rfl ?_
      show s_Ek (s_rows 3 L xs) 1298 s_e173.1 0 [(0, .int 2)] [] s_M0 _
      refine s_ek_bk 7 (P := 14) (ls' := [(0, .int 2)]) (st' := [.int 1]) (M' := s_M0) rfl ?_
      refine s_ek_ret (o := some (.int 1)) (fun _ => rfl) ?_
      show s_Ek (s_rows 3 L xs) 1299 s_e153.1 11 [(0, .ref 0), (1, .int 28), (2, .int b)] [.int 1] s_M0 _
      refine s_ek_bk 4 (P := 18) (ls' := [(0, .ref 0), (1, .int 28), (2, .int b)]) (st' := [.int 8]) (M' := s_M0) rfl ?_
      refine s_ek_call (ν := s_e173.1) (P := 21) (as := [.int 8]) (r := []) (fun _ => rfl) rfl ?_
      show s_Ek (s_rows 3 L xs) 1298 s_e173.1 0 [(0, .int 8)] [] s_M0 _
      refine s_ek_bk 6 (P := 14) (ls' := [(0, .int 8)]) (st' := [.int 0]) (M' := s_M0) rfl ?_
      refine s_ek_ret (o := some (.int 0)) (fun _ => rfl) ?_
      show s_Ek (s_rows 3 L xs) 1299 s_e153.1 21 [(0, .ref 0), (1, .int 28), (2, .int b)] [.int 0] s_M0 _
      refine s_ek_bk 2 (P := 32) (ls' := [(0, .ref 0), (1, .int 28), (2, .int b)]) (st' := [.int (-1)]) (M' := s_M0) rfl ?_
      refine s_ek_ret (o := some (.int (-1))) (fun _ => rfl) ?_
      refine ⟨(-1), rfl, ?_⟩
      show s_Ek (s_rows 3 L xs) 1299 s_e257.1 0 [(0, .ref 151), (1, .int 28), (2, .int b)] [] s_M0 _
      refine s_ek_bk 13 (P := 30) (ls' := [(0, .ref 151), (1, .int 28), (2, .int b)]) (st' := [.int (-1)]) (M' := s_M0) rfl ?_
      refine s_ek_ret (o := some (.int (-1))) (fun _ => rfl) ?_
      exact rfl
    rcases Int.lt_or_le 1 b.toInt with h4 | h4
    · show s_Ek (s_rows 3 L xs) 1299 s_e153.1 0 [(0, .ref 0), (1, .int 28), (2, .int b)] [] s_M0 _
      refine s_ek_bk 5 (P := 8) (ls' := [(0, .ref 0), (1, .int 28), (2, .int b)]) (st' := [.int 2]) (M' := s_M0) rfl ?_
      refine s_ek_call (ν := s_e173.1) (P := 11) (as := [.int 2]) (r := []) (fun _ => rfl) rfl ?_
      show s_Ek (s_rows 3 L xs) 1298 s_e173.1 0 [(0, .int 2)] [] s_M0 _
      refine s_ek_bk 7 (P := 14) (ls' := [(0, .int 2)]) (st' := [.int 1]) (M' := s_M0) rfl ?_
      refine s_ek_ret (o := some (.int 1)) (fun _ => rfl) ?_
      show s_Ek (s_rows 3 L xs) 1299 s_e153.1 11 [(0, .ref 0), (1, .int 28), (2, .int b)] [.int 1] s_M0 _
      refine s_ek_bk 4 (P := 18) (ls' := [(0, .ref 0), (1, .int 28), (2, .int b)]) (st' := [.int 8]) (M' := s_M0) rfl ?_
      refine s_ek_call (ν := s_e173.1) (P := 21) (as := [.int 8]) (r := []) (fun _ => rfl) rfl ?_
      show s_Ek (s_rows 3 L xs) 1298 s_e173.1 0 [(0, .int 8)] [] s_M0 _
      refine s_ek_bk 6 (P := 14) (ls' := [(0, .int 8)]) (st' := [.int 0]) (M' := s_M0) rfl ?_
      refine s_ek_ret (o := some (.int 0)) (fun _ => rfl) ?_
      show s_Ek (s_rows 3 L xs) 1299 s_e153.1 21 [(0, .ref 0), (1, .int 28), (2, .int b)] [.int 0] s_M0 _
      refine s_ek_bk 2 (P := 32) (ls' := [(0, .ref 0), (1, .int 28), (2, .int b)]) (st' := [.int (-1)]) (M' := s_M0) rfl ?_
      refine s_ek_ret (o := some (.int (-1))) (fun _ => rfl) ?_
      refine ⟨(-1), rfl, ?_⟩
      show s_Ek (s_rows 3 L xs) 1299 s_e257.1 0 [(0, .ref 151), (1, .int 28), (2, .int b)] [] s_M0 _
      refine s_ek_bk 13 (P := 30) (ls' := [(0, .ref 151), (1, .int 28), (2, .int b)]) (st' := [.int (-1)]) (M' := s_M0) rfl ?_
      refine s_ek_ret (o := some (.int (-1))) (fun _ => rfl) ?_
      exact rfl
    rcases s_rg_0_1 h3 h4 with rfl | rfl
    · exact s_ek_run s_El_rows s_clj_112 ⟨(-1), rfl, s_ek_run s_El_rows s_clj_113 rfl⟩
    · exact s_ek_run s_El_rows s_clj_114 ⟨(-1), rfl, s_ek_run s_El_rows s_clj_115 rfl⟩
  · rcases Int.lt_or_le b.toInt 0 with h3 | h3
    · show s_Ek (s_rows 3 L xs) 1299 s_e153.1 0 [(0, .ref 0), (1, .int 29), (2, .int b)] [] s_M0 _
      refine s_ek_bk 5 (P := 8) (ls' := [(0, .ref 0), (1, .int 29), (2, .int b)]) (st' := [.int 2]) (M' := s_M0) rfl ?_
      refine s_ek_call (ν := s_e173.1) (P := 11) (as := [.int 2]) (r := []) (fun _ => rfl) rfl ?_
      show s_Ek (s_rows 3 L xs) 1298 s_e173.1 0 [(0, .int 2)] [] s_M0 _
      refine s_ek_bk 7 (P := 14) (ls' := [(0, .int 2)]) (st' := [.int 1]) (M' := s_M0) rfl ?_
      refine s_ek_ret (o := some (.int 1)) (fun _ => rfl) ?_
      show s_Ek (s_rows 3 L xs) 1299 s_e153.1 11 [(0, .ref 0), (1, .int 29), (2, .int b)] [.int 1] s_M0 _
      refine s_ek_bk 4 (P := 18) (ls' := [(0, .ref 0), (1, .int 29), (2, .int b)]) (st' := [.int 9]) (M' := s_M0) rfl ?_
      refine s_ek_call (ν := s_e173.1) (P := 21) (as := [.int 9]) (r := []) (fun _ => rfl) rfl ?_
      show s_Ek (s_rows 3 L xs) 1298 s_e173.1 0 [(0, .int 9)] [] s_M0 _
      refine s_ek_bk 6 (P := 14) (ls' := [(0, .int 9)]) (st' := [.int 0]) (M' := s_M0) rfl ?_
      refine s_ek_ret (o := some (.int 0)) (fun _ => rfl) ?_
      show s_Ek (s_rows 3 L xs) 1299 s_e153.1 21 [(0, .ref 0), (1, .int 29), (2, .int b)] [.int 0] s_M0 _
      refine s_ek_bk 2 (P := 32) (ls' := [(0, .ref 0), (1, .int 29), (2, .int b)]) (st' := [.int (-1)]) (M' := s_M0) rfl ?_
      refine s_ek_ret (o := some (.int (-1))) (fun _ => rfl) ?_
      refine ⟨(-1), rfl, ?_⟩
      show s_Ek (s_rows 3 L xs) 1299 s_e257.1 0 [(0, .ref 151), (1, .int 29), (2, .int b)] [] s_M0 _
      refine s_ek_bk 13 (P := 30) (ls' := [(0, .ref 151), (1, .int 29), (2, .int b)]) (st' := [.int (-1)]) (M' := s_M0) rfl ?_
      refine s_ek_ret (o := some (.int (-1))) (fun _ => rfl) ?_
      exact rfl
    rcases Int.lt_or_le 1 b.toInt with h4 | h4
    · show s_Ek (s_rows 3 L xs) 1299 s_e153.1 0 [(0, .ref 0), (1, .int 29), (2, .int b)] [] s_M0 _
      refine s_ek_bk 5 (P := 8) (ls' := [(0, .ref 0), (1, .int 29), (2, .int b)]) (st' := [.int 2]) (M' := s_M0) rfl ?_
      refine s_ek_call (ν := s_e173.1) (P := 11) (as := [.int 2]) (r := []) (fun _ => rfl) rfl ?_
      show s_Ek (s_rows 3 L xs) 1298 s_e173.1 0 [(0, .int 2)] [] s_M0 _
      refine s_ek_bk 7 (P := 14) (ls' := [(0, .int 2)]) (st' := [.int 1]) (M' := s_M0) rfl ?_
      refine s_ek_ret (o := some (.int 1)) (fun _ => rfl) ?_
      show s_Ek (s_rows 3 L xs) 1299 s_e153.1 11 [(0, .ref 0), (1, .int 29), (2, .int b)] [.int 1] s_M0 _
      refine s_ek_bk 4 (P := 18) (ls' := [(0, .ref 0), (1, .int 29), (2, .int b)]) (st' := [.int 9]) (M' := s_M0) rfl ?_
      refine s_ek_call (ν := s_e173.1) (P := 21) (as := [.int 9]) (r := []) (fun _ => rfl) rfl ?_
      show s_Ek (s_rows 3 L xs) 1298 s_e173.1 0 [(0, .int 9)] [] s_M0 _
      refine s_ek_bk 6 (P := 14) (ls' := [(0, .int 9)]) (st' := [.int 0]) (M' := s_M0) rfl ?_
      refine s_ek_ret (o := some (.int 0)) (fun _ => rfl) ?_
      show s_Ek (s_rows 3 L xs) 1299 s_e153.1 21 [(0, .ref 0), (1, .int 29), (2, .int b)] [.int 0] s_M0 _
      refine s_ek_bk 2 (P := 32) (ls' := [(0, .ref 0), (1, .int 29), (2, .int b)]) (st' := [.int (-1)]) (M' := s_M0) rfl ?_
      refine s_ek_ret (o := some (.int (-1))) (fun _ => rfl) ?_
      refine ⟨(-1), rfl, ?_⟩
      show s_Ek (s_rows 3 L xs) 1299 s_e257.1 0 [(0, .ref 151), (1, .int 29), (2, .int b)] [] s_M0 _
      refine s_ek_bk 13 (P := 30) (ls' := [(0, .ref 151), (1, .int 29), (2, .int b)]) (st' := [.int (-1)]) (M' := s_M0) rfl ?_
      refine s_ek_ret (o := some (.int (-1))) (fun _ => rfl) ?_
      exact rfl
    rcases s_rg_0_1 h3 h4 with rfl | rfl
    · exact s_ek_run s_El_rows s_clj_116 ⟨(-1), rfl, s_ek_run s_El_rows s_clj_117 rfl⟩
    · exact s_ek_run s_El_rows s_clj_118 ⟨(-1), rfl, s_ek_run s_El_rows s_clj_119 rfl⟩
  · rcases Int.lt_or_le b.toInt 0 with h3 | h3
    · show s_Ek (s_rows 3 L xs) 1299 s_e153.1 0 [(0, .ref 0), (1, .int 30), (2, .int b)] [] s_M0 _
      refine s_ek_bk 5 (P := 8) (ls' := [(0, .ref 0), (1, .int 30), (2, .int b)]) (st' := [.int 3]) (M' := s_M0) rfl ?_
      refine s_ek_call (ν := s_e173.1) (P := 11) (as := [.int 3]) (r := []) (fun _ => rfl) rfl ?_
      show s_Ek (s_rows 3 L xs) 1298 s_e173.1 0 [(0, .int 3)] [] s_M0 _
      refine s_ek_bk 7 (P := 14) (ls' := [(0, .int 3)]) (st' := [.int 1]) (M' := s_M0) rfl ?_
      refine s_ek_ret (o := some (.int 1)) (fun _ => rfl) ?_
      show s_Ek (s_rows 3 L xs) 1299 s_e153.1 11 [(0, .ref 0), (1, .int 30), (2, .int b)] [.int 1] s_M0 _
      refine s_ek_bk 4 (P := 18) (ls' := [(0, .ref 0), (1, .int 30), (2, .int b)]) (st' := [.int 0]) (M' := s_M0) rfl ?_
      refine s_ek_call (ν := s_e173.1) (P := 21) (as := [.int 0]) (r := []) (fun _ => rfl) rfl ?_
      show s_Ek (s_rows 3 L xs) 1298 s_e173.1 0 [(0, .int 0)] [] s_M0 _
      refine s_ek_bk 7 (P := 14) (ls' := [(0, .int 0)]) (st' := [.int 1]) (M' := s_M0) rfl ?_
      refine s_ek_ret (o := some (.int 1)) (fun _ => rfl) ?_
      show s_Ek (s_rows 3 L xs) 1299 s_e153.1 21 [(0, .ref 0), (1, .int 30), (2, .int b)] [.int 1] s_M0 _
      refine s_ek_bk 2 (P := 25) (ls' := [(0, .ref 0), (1, .int 30), (2, .int b)]) (st' := [.int b]) (M' := s_M0) rfl ?_
      refine s_ek_call (ν := s_e174.1) (P := 28) (as := [.int b]) (r := []) (fun _ => rfl) rfl ?_
      show s_Ek (s_rows 3 L xs) 1298 s_e174.1 0 [(0, .int b)] [] s_M0 _
      refine s_ek_bk 1 (P := 1) (ls' := [(0, .int b)]) (st' := [.int b]) (M' := s_M0) rfl ?_
      refine s_ek_if1 (T := 9) rfl rfl (fun h5 => ?_) (fun h5 => ?_)
      · replace h5 : b.toInt = 0 := h5
        omega
      · replace h5 : ¬ (b.toInt = 0) := h5
        replace h5 : ¬ b.toInt = 0 := by omega
        refine s_ek_bk 2 (P := 6) (ls' := [(0, .int b)]) (st' := [.int 1, .int b]) (M' := s_M0) rfl ?_
        refine s_ek_if2 (T := 13) rfl rfl (fun h6 => ?_) (fun h6 => ?_)
        · replace h6 : ¬ b.toInt = 1 := h6
          refine s_ek_bk 1 (P := 14) (ls' := [(0, .int b)]) (st' := [.int 0]) (M' := s_M0) rfl ?_
          refine s_ek_ret (o := some (.int 0)) (fun _ => rfl) ?_
          show s_Ek (s_rows 3 L xs) 1299 s_e153.1 28 [(0, .ref 0), (1, .int 30), (2, .int b)] [.int 0] s_M0 _
          refine s_ek_bk 2 (P := 32) (ls' := [(0, .ref 0), (1, .int 30), (2, .int b)]) (st' := [.int (-1)]) (M' := s_M0) rfl ?_
          refine s_ek_ret (o := some (.int (-1))) (fun _ => rfl) ?_
          refine ⟨(-1), rfl, ?_⟩
          show s_Ek (s_rows 3 L xs) 1299 s_e257.1 0 [(0, .ref 151), (1, .int 30), (2, .int b)] [] s_M0 _
          refine s_ek_bk 15 (P := 23) (ls' := [(0, .ref 151), (1, .int 30), (2, .int b)]) (st' := [.int 1, .int 0, .int b]) (M' := s_M0) rfl ?_
          refine s_ek_call (ν := s_e181.1) (P := 26) (as := [.int b, .int 0, .int 1]) (r := []) (fun _ => rfl) rfl ?_
          show s_Ek (s_rows 3 L xs) 1298 s_e181.1 0 [(0, .int b), (1, .int 0), (2, .int 1)] [] s_M0 _
          refine s_ek_bk 2 (P := 2) (ls' := [(0, .int b), (1, .int 0), (2, .int 1)]) (st' := [.int 0, .int b]) (M' := s_M0) rfl ?_
          refine s_ek_if2 (T := 14) rfl rfl (fun h7 => ?_) (fun h7 => ?_)
          · replace h7 : b.toInt < 0 := h7
            refine s_ek_bk 1 (P := 15) (ls' := [(0, .int b), (1, .int 0), (2, .int 1)]) (st' := [.int 0]) (M' := s_M0) rfl ?_
            refine s_ek_ret (o := some (.int 0)) (fun _ => rfl) ?_
            show s_Ek (s_rows 3 L xs) 1299 s_e257.1 26 [(0, .ref 151), (1, .int 30), (2, .int b)] [.int 0] s_M0 _
            refine s_ek_bk 2 (P := 30) (ls' := [(0, .ref 151), (1, .int 30), (2, .int b)]) (st' := [.int (-1)]) (M' := s_M0) rfl ?_
            refine s_ek_ret (o := some (.int (-1))) (fun _ => rfl) ?_
            exact rfl
          · replace h7 : ¬ (b.toInt < 0) := h7
            replace h7 : 0 ≤ b.toInt := by omega
            omega
        · replace h6 : ¬ (¬ b.toInt = 1) := h6
          replace h6 : b.toInt = 1 := by omega
          omega
    rcases Int.lt_or_le 1 b.toInt with h4 | h4
    · show s_Ek (s_rows 3 L xs) 1299 s_e153.1 0 [(0, .ref 0), (1, .int 30), (2, .int b)] [] s_M0 _
      refine s_ek_bk 5 (P := 8) (ls' := [(0, .ref 0), (1, .int 30), (2, .int b)]) (st' := [.int 3]) (M' := s_M0) rfl ?_
      refine s_ek_call (ν := s_e173.1) (P := 11) (as := [.int 3]) (r := []) (fun _ => rfl) rfl ?_
      show s_Ek (s_rows 3 L xs) 1298 s_e173.1 0 [(0, .int 3)] [] s_M0 _
      refine s_ek_bk 7 (P := 14) (ls' := [(0, .int 3)]) (st' := [.int 1]) (M' := s_M0) rfl ?_
      refine s_ek_ret (o := some (.int 1)) (fun _ => rfl) ?_
      show s_Ek (s_rows 3 L xs) 1299 s_e153.1 11 [(0, .ref 0), (1, .int 30), (2, .int b)] [.int 1] s_M0 _
      refine s_ek_bk 4 (P := 18) (ls' := [(0, .ref 0), (1, .int 30), (2, .int b)]) (st' := [.int 0]) (M' := s_M0) rfl ?_
      refine s_ek_call (ν := s_e173.1) (P := 21) (as := [.int 0]) (r := []) (fun _ => rfl) rfl ?_
      show s_Ek (s_rows 3 L xs) 1298 s_e173.1 0 [(0, .int 0)] [] s_M0 _
      refine s_ek_bk 7 (P := 14) (ls' := [(0, .int 0)]) (st' := [.int 1]) (M' := s_M0) rfl ?_
      refine s_ek_ret (o := some (.int 1)) (fun _ => rfl) ?_
      show s_Ek (s_rows 3 L xs) 1299 s_e153.1 21 [(0, .ref 0), (1, .int 30), (2, .int b)] [.int 1] s_M0 _
      refine s_ek_bk 2 (P := 25) (ls' := [(0, .ref 0), (1, .int 30), (2, .int b)]) (st' := [.int b]) (M' := s_M0) rfl ?_
      refine s_ek_call (ν := s_e174.1) (P := 28) (as := [.int b]) (r := []) (fun _ => rfl) rfl ?_
      show s_Ek (s_rows 3 L xs) 1298 s_e174.1 0 [(0, .int b)] [] s_M0 _
      refine s_ek_bk 1 (P := 1) (ls' := [(0, .int b)]) (st' := [.int b]) (M' := s_M0) rfl ?_
      refine s_ek_if1 (T := 9) rfl rfl (fun h5 => ?_) (fun h5 => ?_)
      · replace h5 : b.toInt = 0 := h5
        omega
      · replace h5 : ¬ (b.toInt = 0) := h5
        replace h5 : ¬ b.toInt = 0 := by omega
        refine s_ek_bk 2 (P := 6) (ls' := [(0, .int b)]) (st' := [.int 1, .int b]) (M' := s_M0) rfl ?_
        refine s_ek_if2 (T := 13) rfl rfl (fun h6 => ?_) (fun h6 => ?_)
        · replace h6 : ¬ b.toInt = 1 := h6
          refine s_ek_bk 1 (P := 14) (ls' := [(0, .int b)]) (st' := [.int 0]) (M' := s_M0) rfl ?_
          refine s_ek_ret (o := some (.int 0)) (fun _ => rfl) ?_
          show s_Ek (s_rows 3 L xs) 1299 s_e153.1 28 [(0, .ref 0), (1, .int 30), (2, .int b)] [.int 0] s_M0 _
          refine s_ek_bk 2 (P := 32) (ls' := [(0, .ref 0), (1, .int 30), (2, .int b)]) (st' := [.int (-1)]) (M' := s_M0) rfl ?_
          refine s_ek_ret (o := some (.int (-1))) (fun _ => rfl) ?_
          refine ⟨(-1), rfl, ?_⟩
          show s_Ek (s_rows 3 L xs) 1299 s_e257.1 0 [(0, .ref 151), (1, .int 30), (2, .int b)] [] s_M0 _
          refine s_ek_bk 15 (P := 23) (ls' := [(0, .ref 151), (1, .int 30), (2, .int b)]) (st' := [.int 1, .int 0, .int b]) (M' := s_M0) rfl ?_
          refine s_ek_call (ν := s_e181.1) (P := 26) (as := [.int b, .int 0, .int 1]) (r := []) (fun _ => rfl) rfl ?_
          show s_Ek (s_rows 3 L xs) 1298 s_e181.1 0 [(0, .int b), (1, .int 0), (2, .int 1)] [] s_M0 _
          refine s_ek_bk 2 (P := 2) (ls' := [(0, .int b), (1, .int 0), (2, .int 1)]) (st' := [.int 0, .int b]) (M' := s_M0) rfl ?_
          refine s_ek_if2 (T := 14) rfl rfl (fun h7 => ?_) (fun h7 => ?_)
          · replace h7 : b.toInt < 0 := h7
            omega
          · replace h7 : ¬ (b.toInt < 0) := h7
            replace h7 : 0 ≤ b.toInt := by omega
            refine s_ek_bk 2 (P := 7) (ls' := [(0, .int b), (1, .int 0), (2, .int 1)]) (st' := [.int 1, .int b]) (M' := s_M0) rfl ?_
            refine s_ek_if2 (T := 14) rfl rfl (fun h8 => ?_) (fun h8 => ?_)
            · replace h8 : 1 < b.toInt := h8
              refine s_ek_bk 1 (P := 15) (ls' := [(0, .int b), (1, .int 0), (2, .int 1)]) (st' := [.int 0]) (M' := s_M0) rfl ?_
              refine s_ek_ret (o := some (.int 0)) (fun _ => rfl) ?_
              show s_Ek (s_rows 3 L xs) 1299 s_e257.1 26 [(0, .ref 151), (1, .int 30), (2, .int b)] [.int 0] s_M0 _
              refine s_ek_bk 2 (P := 30) (ls' := [(0, .ref 151), (1, .int 30), (2, .int b)]) (st' := [.int (-1)]) (M' := s_M0) rfl ?_
              refine s_ek_ret (o := some (.int (-1))) (fun _ => rfl) ?_
              exact rfl
            · replace h8 : ¬ (1 < b.toInt) := h8
              replace h8 : b.toInt ≤ 1 := by omega
              omega
        · replace h6 : ¬ (¬ b.toInt = 1) := h6
          replace h6 : b.toInt = 1 := by omega
          omega
    rcases s_rg_0_1 h3 h4 with rfl | rfl
    · exact s_ek_run s_El_rows s_clj_120 ⟨0, rfl, s_ek_run s_El_rows s_clj_121 rfl⟩
    · exact s_ek_run s_El_rows s_clj_122 ⟨(-2), rfl, s_ek_run s_El_rows s_clj_123 rfl⟩
  · rcases Int.lt_or_le b.toInt 0 with h3 | h3
    · show s_Ek (s_rows 3 L xs) 1299 s_e153.1 0 [(0, .ref 0), (1, .int 31), (2, .int b)] [] s_M0 _
      refine s_ek_bk 5 (P := 8) (ls' := [(0, .ref 0), (1, .int 31), (2, .int b)]) (st' := [.int 3]) (M' := s_M0) rfl ?_
      refine s_ek_call (ν := s_e173.1) (P := 11) (as := [.int 3]) (r := []) (fun _ => rfl) rfl ?_
      show s_Ek (s_rows 3 L xs) 1298 s_e173.1 0 [(0, .int 3)] [] s_M0 _
      refine s_ek_bk 7 (P := 14) (ls' := [(0, .int 3)]) (st' := [.int 1]) (M' := s_M0) rfl ?_
      refine s_ek_ret (o := some (.int 1)) (fun _ => rfl) ?_
      show s_Ek (s_rows 3 L xs) 1299 s_e153.1 11 [(0, .ref 0), (1, .int 31), (2, .int b)] [.int 1] s_M0 _
      refine s_ek_bk 4 (P := 18) (ls' := [(0, .ref 0), (1, .int 31), (2, .int b)]) (st' := [.int 1]) (M' := s_M0) rfl ?_
      refine s_ek_call (ν := s_e173.1) (P := 21) (as := [.int 1]) (r := []) (fun _ => rfl) rfl ?_
      show s_Ek (s_rows 3 L xs) 1298 s_e173.1 0 [(0, .int 1)] [] s_M0 _
      refine s_ek_bk 7 (P := 14) (ls' := [(0, .int 1)]) (st' := [.int 1]) (M' := s_M0) rfl ?_
      refine s_ek_ret (o := some (.int 1)) (fun _ => rfl) ?_
      show s_Ek (s_rows 3 L xs) 1299 s_e153.1 21 [(0, .ref 0), (1, .int 31), (2, .int b)] [.int 1] s_M0 _
      refine s_ek_bk 2 (P := 25) (ls' := [(0, .ref 0), (1, .int 31), (2, .int b)]) (st' := [.int b]) (M' := s_M0) rfl ?_
      refine s_ek_call (ν := s_e174.1) (P := 28) (as := [.int b]) (r := []) (fun _ => rfl) rfl ?_
      show s_Ek (s_rows 3 L xs) 1298 s_e174.1 0 [(0, .int b)] [] s_M0 _
      refine s_ek_bk 1 (P := 1) (ls' := [(0, .int b)]) (st' := [.int b]) (M' := s_M0) rfl ?_
      refine s_ek_if1 (T := 9) rfl rfl (fun h5 => ?_) (fun h5 => ?_)
      · replace h5 : b.toInt = 0 := h5
        omega
      · replace h5 : ¬ (b.toInt = 0) := h5
        replace h5 : ¬ b.toInt = 0 := by omega
        refine s_ek_bk 2 (P := 6) (ls' := [(0, .int b)]) (st' := [.int 1, .int b]) (M' := s_M0) rfl ?_
        refine s_ek_if2 (T := 13) rfl rfl (fun h6 => ?_) (fun h6 => ?_)
        · replace h6 : ¬ b.toInt = 1 := h6
          refine s_ek_bk 1 (P := 14) (ls' := [(0, .int b)]) (st' := [.int 0]) (M' := s_M0) rfl ?_
          refine s_ek_ret (o := some (.int 0)) (fun _ => rfl) ?_
          show s_Ek (s_rows 3 L xs) 1299 s_e153.1 28 [(0, .ref 0), (1, .int 31), (2, .int b)] [.int 0] s_M0 _
          refine s_ek_bk 2 (P := 32) (ls' := [(0, .ref 0), (1, .int 31), (2, .int b)]) (st' := [.int (-1)]) (M' := s_M0) rfl ?_
          refine s_ek_ret (o := some (.int (-1))) (fun _ => rfl) ?_
          refine ⟨(-1), rfl, ?_⟩
          show s_Ek (s_rows 3 L xs) 1299 s_e257.1 0 [(0, .ref 151), (1, .int 31), (2, .int b)] [] s_M0 _
          refine s_ek_bk 15 (P := 23) (ls' := [(0, .ref 151), (1, .int 31), (2, .int b)]) (st' := [.int 1, .int 0, .int b]) (M' := s_M0) rfl ?_
          refine s_ek_call (ν := s_e181.1) (P := 26) (as := [.int b, .int 0, .int 1]) (r := []) (fun _ => rfl) rfl ?_
          show s_Ek (s_rows 3 L xs) 1298 s_e181.1 0 [(0, .int b), (1, .int 0), (2, .int 1)] [] s_M0 _
          refine s_ek_bk 2 (P := 2) (ls' := [(0, .int b), (1, .int 0), (2, .int 1)]) (st' := [.int 0, .int b]) (M' := s_M0) rfl ?_
          refine s_ek_if2 (T := 14) rfl rfl (fun h7 => ?_) (fun h7 => ?_)
          · replace h7 : b.toInt < 0 := h7
            refine s_ek_bk 1 (P := 15) (ls' := [(0, .int b), (1, .int 0), (2, .int 1)]) (st' := [.int 0]) (M' := s_M0) rfl ?_
            refine s_ek_ret (o := some (.int 0)) (fun _ => rfl) ?_
            show s_Ek (s_rows 3 L xs) 1299 s_e257.1 26 [(0, .ref 151), (1, .int 31), (2, .int b)] [.int 0] s_M0 _
            refine s_ek_bk 2 (P := 30) (ls' := [(0, .ref 151), (1, .int 31), (2, .int b)]) (st' := [.int (-1)]) (M' := s_M0) rfl ?_
            refine s_ek_ret (o := some (.int (-1))) (fun _ => rfl) ?_
            exact rfl
          · replace h7 : ¬ (b.toInt < 0) := h7
            replace h7 : 0 ≤ b.toInt := by omega
            omega
        · replace h6 : ¬ (¬ b.toInt = 1) := h6
          replace h6 : b.toInt = 1 := by omega
          omega
    rcases Int.lt_or_le 1 b.toInt with h4 | h4
    · show s_Ek (s_rows 3 L xs) 1299 s_e153.1 0 [(0, .ref 0), (1, .int 31), (2, .int b)] [] s_M0 _
      refine s_ek_bk 5 (P := 8) (ls' := [(0, .ref 0), (1, .int 31), (2, .int b)]) (st' := [.int 3]) (M' := s_M0) rfl ?_
      refine s_ek_call (ν := s_e173.1) (P := 11) (as := [.int 3]) (r := []) (fun _ => rfl) rfl ?_
      show s_Ek (s_rows 3 L xs) 1298 s_e173.1 0 [(0, .int 3)] [] s_M0 _
      refine s_ek_bk 7 (P := 14) (ls' := [(0, .int 3)]) (st' := [.int 1]) (M' := s_M0) rfl ?_
      refine s_ek_ret (o := some (.int 1)) (fun _ => rfl) ?_
      show s_Ek (s_rows 3 L xs) 1299 s_e153.1 11 [(0, .ref 0), (1, .int 31), (2, .int b)] [.int 1] s_M0 _
      refine s_ek_bk 4 (P := 18) (ls' := [(0, .ref 0), (1, .int 31), (2, .int b)]) (st' := [.int 1]) (M' := s_M0) rfl ?_
      refine s_ek_call (ν := s_e173.1) (P := 21) (as := [.int 1]) (r := []) (fun _ => rfl) rfl ?_
      show s_Ek (s_rows 3 L xs) 1298 s_e173.1 0 [(0, .int 1)] [] s_M0 _
      refine s_ek_bk 7 (P := 14) (ls' := [(0, .int 1)]) (st' := [.int 1]) (M' := s_M0) rfl ?_
      refine s_ek_ret (o := some (.int 1)) (fun _ => rfl) ?_
      show s_Ek (s_rows 3 L xs) 1299 s_e153.1 21 [(0, .ref 0), (1, .int 31), (2, .int b)] [.int 1] s_M0 _
      refine s_ek_bk 2 (P := 25) (ls' := [(0, .ref 0), (1, .int 31), (2, .int b)]) (st' := [.int b]) (M' := s_M0) rfl ?_
      refine s_ek_call (ν := s_e174.1) (P := 28) (as := [.int b]) (r := []) (fun _ => rfl) rfl ?_
      show s_Ek (s_rows 3 L xs) 1298 s_e174.1 0 [(0, .int b)] [] s_M0 _
      refine s_ek_bk 1 (P := 1) (ls' := [(0, .int b)]) (st' := [.int b]) (M' := s_M0) rfl ?_
      refine s_ek_if1 (T := 9) rfl rfl (fun h5 => ?_) (fun h5 => ?_)
      · replace h5 : b.toInt = 0 := h5
        omega
      · replace h5 : ¬ (b.toInt = 0) := h5
        replace h5 : ¬ b.toInt = 0 := by omega
        refine s_ek_bk 2 (P := 6) (ls' := [(0, .int b)]) (st' := [.int 1, .int b]) (M' := s_M0) rfl ?_
        refine s_ek_if2 (T := 13) rfl rfl (fun h6 => ?_) (fun h6 => ?_)
        · replace h6 : ¬ b.toInt = 1 := h6
          refine s_ek_bk 1 (P := 14) (ls' := [(0, .int b)]) (st' := [.int 0]) (M' := s_M0) rfl ?_
          refine s_ek_ret (o := some (.int 0)) (fun _ => rfl) ?_
          show s_Ek (s_rows 3 L xs) 1299 s_e153.1 28 [(0, .ref 0), (1, .int 31), (2, .int b)] [.int 0] s_M0 _
          refine s_ek_bk 2 (P := 32) (ls' := [(0, .ref 0), (1, .int 31), (2, .int b)]) (st' := [.int (-1)]) (M' := s_M0) rfl ?_
          refine s_ek_ret (o := some (.int (-1))) (fun _ => rfl) ?_
          refine ⟨(-1), rfl, ?_⟩
          show s_Ek (s_rows 3 L xs) 1299 s_e257.1 0 [(0, .ref 151), (1, .int 31), (2, .int b)] [] s_M0 _
          refine s_ek_bk 15 (P := 23) (ls' := [(0, .ref 151), (1, .int 31), (2, .int b)]) (st' := [.int 1, .int 0, .int b]) (M' := s_M0) rfl ?_
          refine s_ek_call (ν := s_e181.1) (P := 26) (as := [.int b, .int 0, .int 1]) (r := []) (fun _ => rfl) rfl ?_
          show s_Ek (s_rows 3 L xs) 1298 s_e181.1 0 [(0, .int b), (1, .int 0), (2, .int 1)] [] s_M0 _
          refine s_ek_bk 2 (P := 2) (ls' := [(0, .int b), (1, .int 0), (2, .int 1)]) (st' := [.int 0, .int b]) (M' := s_M0) rfl ?_
          refine s_ek_if2 (T := 14) rfl rfl (fun h7 => ?_) (fun h7 => ?_)
          · replace h7 : b.toInt < 0 := h7
            omega
          · replace h7 : ¬ (b.toInt < 0) := h7
            replace h7 : 0 ≤ b.toInt := by omega
            refine s_ek_bk 2 (P := 7) (ls' := [(0, .int b), (1, .int 0), (2, .int 1)]) (st' := [.int 1, .int b]) (M' := s_M0) rfl ?_
            refine s_ek_if2 (T := 14) rfl rfl (fun h8 => ?_) (fun h8 => ?_)
            · replace h8 : 1 < b.toInt := h8
              refine s_ek_bk 1 (P := 15) (ls' := [(0, .int b), (1, .int 0), (2, .int 1)]) (st' := [.int 0]) (M' := s_M0) rfl ?_
              refine s_ek_ret (o := some (.int 0)) (fun _ => rfl) ?_
              show s_Ek (s_rows 3 L xs) 1299 s_e257.1 26 [(0, .ref 151), (1, .int 31), (2, .int b)] [.int 0] s_M0 _
              refine s_ek_bk 2 (P := 30) (ls' := [(0, .ref 151), (1, .int 31), (2, .int b)]) (st' := [.int (-1)]) (M' := s_M0) rfl ?_
              refine s_ek_ret (o := some (.int (-1))) (fun _ => rfl) ?_
              exact rfl
            · replace h8 : ¬ (1 < b.toInt) := h8
              replace h8 : b.toInt ≤ 1 := by omega
              omega
        · replace h6 : ¬ (¬ b.toInt = 1) := h6
          replace h6 : b.toInt = 1 := by omega
          omega
    rcases s_rg_0_1 h3 h4 with rfl | rfl
    · exact s_ek_run s_El_rows s_clj_124 ⟨0, rfl, s_ek_run s_El_rows s_clj_125 rfl⟩
    · exact s_ek_run s_El_rows s_clj_126 ⟨(-2), rfl, s_ek_run s_El_rows s_clj_127 rfl⟩
  · rcases Int.lt_or_le b.toInt 0 with h3 | h3
    · show s_Ek (s_rows 3 L xs) 1299 s_e153.1 0 [(0, .ref 0), (1, .int 32), (2, .int b)] [] s_M0 _
      refine s_ek_bk 5 (P := 8) (ls' := [(0, .ref 0), (1, .int 32), (2, .int b)]) (st' := [.int 3]) (M' := s_M0) rfl ?_
      refine s_ek_call (ν := s_e173.1) (P := 11) (as := [.int 3]) (r := []) (fun _ => rfl) rfl ?_
      show s_Ek (s_rows 3 L xs) 1298 s_e173.1 0 [(0, .int 3)] [] s_M0 _
      refine s_ek_bk 7 (P := 14) (ls' := [(0, .int 3)]) (st' := [.int 1]) (M' := s_M0) rfl ?_
      refine s_ek_ret (o := some (.int 1)) (fun _ => rfl) ?_
      show s_Ek (s_rows 3 L xs) 1299 s_e153.1 11 [(0, .ref 0), (1, .int 32), (2, .int b)] [.int 1] s_M0 _
      refine s_ek_bk 4 (P := 18) (ls' := [(0, .ref 0), (1, .int 32), (2, .int b)]) (st' := [.int 2]) (M' := s_M0) rfl ?_
      refine s_ek_call (ν := s_e173.1) (P := 21) (as := [.int 2]) (r := []) (fun _ => rfl) rfl ?_
      show s_Ek (s_rows 3 L xs) 1298 s_e173.1 0 [(0, .int 2)] [] s_M0 _
      refine s_ek_bk 7 (P := 14) (ls' := [(0, .int 2)]) (st' := [.int 1]) (M' := s_M0) rfl ?_
      refine s_ek_ret (o := some (.int 1)) (fun _ => rfl) ?_
      show s_Ek (s_rows 3 L xs) 1299 s_e153.1 21 [(0, .ref 0), (1, .int 32), (2, .int b)] [.int 1] s_M0 _
      refine s_ek_bk 2 (P := 25) (ls' := [(0, .ref 0), (1, .int 32), (2, .int b)]) (st' := [.int b]) (M' := s_M0) rfl ?_
      refine s_ek_call (ν := s_e174.1) (P := 28) (as := [.int b]) (r := []) (fun _ => rfl) rfl ?_
      show s_Ek (s_rows 3 L xs) 1298 s_e174.1 0 [(0, .int b)] [] s_M0 _
      refine s_ek_bk 1 (P := 1) (ls' := [(0, .int b)]) (st' := [.int b]) (M' := s_M0) rfl ?_
      refine s_ek_if1 (T := 9) rfl rfl (fun h5 => ?_) (fun h5 => ?_)
      · replace h5 : b.toInt = 0 := h5
        omega
      · replace h5 : ¬ (b.toInt = 0) := h5
        replace h5 : ¬ b.toInt = 0 := by omega
        refine s_ek_bk 2 (P := 6) (ls' := [(0, .int b)]) (st' := [.int 1, .int b]) (M' := s_M0) rfl ?_
        refine s_ek_if2 (T := 13) rfl rfl (fun h6 => ?_) (fun h6 => ?_)
        · replace h6 : ¬ b.toInt = 1 := h6
          refine s_ek_bk 1 (P := 14) (ls' := [(0, .int b)]) (st' := [.int 0]) (M' := s_M0) rfl ?_
          refine s_ek_ret (o := some (.int 0)) (fun _ => rfl) ?_
          show s_Ek (s_rows 3 L xs) 1299 s_e153.1 28 [(0, .ref 0), (1, .int 32), (2, .int b)] [.int 0] s_M0 _
          refine s_ek_bk 2 (P := 32) (ls' := [(0, .ref 0), (1, .int 32), (2, .int b)]) (st' := [.int (-1)]) (M' := s_M0) rfl ?_
          refine s_ek_ret (o := some (.int (-1))) (fun _ => rfl) ?_
          refine ⟨(-1), rfl, ?_⟩
          show s_Ek (s_rows 3 L xs) 1299 s_e257.1 0 [(0, .ref 151), (1, .int 32), (2, .int b)] [] s_M0 _
          refine s_ek_bk 15 (P := 23) (ls' := [(0, .ref 151), (1, .int 32), (2, .int b)]) (st' := [.int 1, .int 0, .int b]) (M' := s_M0) rfl ?_
          refine s_ek_call (ν := s_e181.1) (P := 26) (as := [.int b, .int 0, .int 1]) (r := []) (fun _ => rfl) rfl ?_
          show s_Ek (s_rows 3 L xs) 1298 s_e181.1 0 [(0, .int b), (1, .int 0), (2, .int 1)] [] s_M0 _
          refine s_ek_bk 2 (P := 2) (ls' := [(0, .int b), (1, .int 0), (2, .int 1)]) (st' := [.int 0, .int b]) (M' := s_M0) rfl ?_
          refine s_ek_if2 (T := 14) rfl rfl (fun h7 => ?_) (fun h7 => ?_)
          · replace h7 : b.toInt < 0 := h7
            refine s_ek_bk 1 (P := 15) (ls' := [(0, .int b), (1, .int 0), (2, .int 1)]) (st' := [.int 0]) (M' := s_M0) rfl ?_
            refine s_ek_ret (o := some (.int 0)) (fun _ => rfl) ?_
            show s_Ek (s_rows 3 L xs) 1299 s_e257.1 26 [(0, .ref 151), (1, .int 32), (2, .int b)] [.int 0] s_M0 _
            refine s_ek_bk 2 (P := 30) (ls' := [(0, .ref 151), (1, .int 32), (2, .int b)]) (st' := [.int (-1)]) (M' := s_M0) rfl ?_
            refine s_ek_ret (o := some (.int (-1))) (fun _ => rfl) ?_
            exact rfl
          · replace h7 : ¬ (b.toInt < 0) := h7
            replace h7 : 0 ≤ b.toInt := by omega
            omega
        · replace h6 : ¬ (¬ b.toInt = 1) := h6
          replace h6 : b.toInt = 1 := by omega
          omega
    rcases Int.lt_or_le 1 b.toInt with h4 | h4
    · show s_Ek (s_rows 3 L xs) 1299 s_e153.1 0 [(0, .ref 0), (1, .int 32), (2, .int b)] [] s_M0 _
      refine s_ek_bk 5 (P := 8) (ls' := [(0, .ref 0), (1, .int 32), (2, .int b)]) (st' := [.int 3]) (M' := s_M0) rfl ?_
      refine s_ek_call (ν := s_e173.1) (P := 11) (as := [.int 3]) (r := []) (fun _ => rfl) rfl ?_
      show s_Ek (s_rows 3 L xs) 1298 s_e173.1 0 [(0, .int 3)] [] s_M0 _
      refine s_ek_bk 7 (P := 14) (ls' := [(0, .int 3)]) (st' := [.int 1]) (M' := s_M0) rfl ?_
      refine s_ek_ret (o := some (.int 1)) (fun _ => rfl) ?_
      show s_Ek (s_rows 3 L xs) 1299 s_e153.1 11 [(0, .ref 0), (1, .int 32), (2, .int b)] [.int 1] s_M0 _
      refine s_ek_bk 4 (P := 18) (ls' := [(0, .ref 0), (1, .int 32), (2, .int b)]) (st' := [.int 2]) (M' := s_M0) rfl ?_
      refine s_ek_call (ν := s_e173.1) (P := 21) (as := [.int 2]) (r := []) (fun _ => rfl) rfl ?_
      show s_Ek (s_rows 3 L xs) 1298 s_e173.1 0 [(0, .int 2)] [] s_M0 _
      refine s_ek_bk 7 (P := 14) (ls' := [(0, .int 2)]) (st' := [.int 1]) (M' := s_M0) rfl ?_
      refine s_ek_ret (o := some (.int 1)) (fun _ => rfl) ?_
      show s_Ek (s_rows 3 L xs) 1299 s_e153.1 21 [(0, .ref 0), (1, .int 32), (2, .int b)] [.int 1] s_M0 _
      refine s_ek_bk 2 (P := 25) (ls' := [(0, .ref 0), (1, .int 32), (2, .int b)]) (st' := [.int b]) (M' := s_M0) rfl ?_
      refine s_ek_call (ν := s_e174.1) (P := 28) (as := [.int b]) (r := []) (fun _ => rfl) rfl ?_
      show s_Ek (s_rows 3 L xs) 1298 s_e174.1 0 [(0, .int b)] [] s_M0 _
      refine s_ek_bk 1 (P := 1) (ls' := [(0, .int b)]) (st' := [.int b]) (M' := s_M0) rfl ?_
      refine s_ek_if1 (T := 9) rfl rfl (fun h5 => ?_) (fun h5 => ?_)
      · replace h5 : b.toInt = 0 := h5
        omega
      · replace h5 : ¬ (b.toInt = 0) := h5
        replace h5 : ¬ b.toInt = 0 := by omega
        refine s_ek_bk 2 (P := 6) (ls' := [(0, .int b)]) (st' := [.int 1, .int b]) (M' := s_M0) rfl ?_
        refine s_ek_if2 (T := 13) rfl rfl (fun h6 => ?_) (fun h6 => ?_)
        · replace h6 : ¬ b.toInt = 1 := h6
          refine s_ek_bk 1 (P := 14) (ls' := [(0, .int b)]) (st' := [.int 0]) (M' := s_M0) rfl ?_
          refine s_ek_ret (o := some (.int 0)) (fun _ => rfl) ?_
          show s_Ek (s_rows 3 L xs) 1299 s_e153.1 28 [(0, .ref 0), (1, .int 32), (2, .int b)] [.int 0] s_M0 _
          refine s_ek_bk 2 (P := 32) (ls' := [(0, .ref 0), (1, .int 32), (2, .int b)]) (st' := [.int (-1)]) (M' := s_M0) rfl ?_
          refine s_ek_ret (o := some (.int (-1))) (fun _ => rfl) ?_
          refine ⟨(-1), rfl, ?_⟩
          show s_Ek (s_rows 3 L xs) 1299 s_e257.1 0 [(0, .ref 151), (1, .int 32), (2, .int b)] [] s_M0 _
          refine s_ek_bk 15 (P := 23) (ls' := [(0, .ref 151), (1, .int 32), (2, .int b)]) (st' := [.int 1, .int 0, .int b]) (M' := s_M0) rfl ?_
          refine s_ek_call (ν := s_e181.1) (P := 26) (as := [.int b, .int 0, .int 1]) (r := []) (fun _ => rfl) rfl ?_
          show s_Ek (s_rows 3 L xs) 1298 s_e181.1 0 [(0, .int b), (1, .int 0), (2, .int 1)] [] s_M0 _
          refine s_ek_bk 2 (P := 2) (ls' := [(0, .int b), (1, .int 0), (2, .int 1)]) (st' := [.int 0, .int b]) (M' := s_M0) rfl ?_
          refine s_ek_if2 (T := 14) rfl rfl (fun h7 => ?_) (fun h7 => ?_)
          · replace h7 : b.toInt < 0 := h7
            omega
          · replace h7 : ¬ (b.toInt < 0) := h7
            replace h7 : 0 ≤ b.toInt := by omega
            refine s_ek_bk 2 (P := 7) (ls' := [(0, .int b), (1, .int 0), (2, .int 1)]) (st' := [.int 1, .int b]) (M' := s_M0) rfl ?_
            refine s_ek_if2 (T := 14) rfl rfl (fun h8 => ?_) (fun h8 => ?_)
            · replace h8 : 1 < b.toInt := h8
              refine s_ek_bk 1 (P := 15) (ls' := [(0, .int b), (1, .int 0), (2, .int 1)]) (st' := [.int 0]) (M' := s_M0) rfl ?_
              refine s_ek_ret (o := some (.int 0)) (fun _ => rfl) ?_
              show s_Ek (s_rows 3 L xs) 1299 s_e257.1 26 [(0, .ref 151), (1, .int 32), (2, .int b)] [.int 0] s_M0 _
              refine s_ek_bk 2 (P := 30) (ls' := [(0, .ref 151), (1, .int 32), (2, .int b)]) (st' := [.int (-1)]) (M' := s_M0) rfl ?_
              refine s_ek_ret (o := some (.int (-1))) (fun _ => rfl) ?_
              exact rfl
            · replace h8 : ¬ (1 < b.toInt) := h8
              replace h8 : b.toInt ≤ 1 := by omega
              omega
        · replace h6 : ¬ (¬ b.toInt = 1) := h6
          replace h6 : b.toInt = 1 := by omega
          omega
    rcases s_rg_0_1 h3 h4 with rfl | rfl
    · exact s_ek_run s_El_rows s_clj_128 ⟨0, rfl, s_ek_run s_El_rows s_clj_129 rfl⟩
    · exact s_ek_run s_El_rows s_clj_130 ⟨(-2), rfl, s_ek_run s_El_rows s_clj_131 rfl⟩
  · rcases Int.lt_or_le b.toInt 0 with h3 | h3
    · show s_Ek (s_rows 3 L xs) 1299 s_e153.1 0 [(0, .ref 0), (1, .int 33), (2, .int b)] [] s_M0 _
      refine s_ek_bk 5 (P := 8) (ls' := [(0, .ref 0), (1, .int 33), (2, .int b)]) (st' := [.int 3]) (M' := s_M0) rfl ?_
      refine s_ek_call (ν := s_e173.1) (P := 11) (as := [.int 3]) (r := []) (fun _ => rfl) rfl ?_
      show s_Ek (s_rows 3 L xs) 1298 s_e173.1 0 [(0, .int 3)] [] s_M0 _
      refine s_ek_bk 7 (P := 14) (ls' := [(0, .int 3)]) (st' := [.int 1]) (M' := s_M0) rfl ?_
      refine s_ek_ret (o := some (.int 1)) (fun _ => rfl) ?_
      show s_Ek (s_rows 3 L xs) 1299 s_e153.1 11 [(0, .ref 0), (1, .int 33), (2, .int b)] [.int 1] s_M0 _
      refine s_ek_bk 4 (P := 18) (ls' := [(0, .ref 0), (1, .int 33), (2, .int b)]) (st' := [.int 3]) (M' := s_M0) rfl ?_
      refine s_ek_call (ν := s_e173.1) (P := 21) (as := [.int 3]) (r := []) (fun _ => rfl) rfl ?_
      show s_Ek (s_rows 3 L xs) 1298 s_e173.1 0 [(0, .int 3)] [] s_M0 _
      refine s_ek_bk 7 (P := 14) (ls' := [(0, .int 3)]) (st' := [.int 1]) (M' := s_M0) rfl ?_
      refine s_ek_ret (o := some (.int 1)) (fun _ => rfl) ?_
      show s_Ek (s_rows 3 L xs) 1299 s_e153.1 21 [(0, .ref 0), (1, .int 33), (2, .int b)] [.int 1] s_M0 _
      refine s_ek_bk 2 (P := 25) (ls' := [(0, .ref 0), (1, .int 33), (2, .int b)]) (st' := [.int b]) (M' := s_M0) rfl ?_
      refine s_ek_call (ν := s_e174.1) (P := 28) (as := [.int b]) (r := []) (fun _ => rfl) rfl ?_
      show s_Ek (s_rows 3 L xs) 1298 s_e174.1 0 [(0, .int b)] [] s_M0 _
      refine s_ek_bk 1 (P := 1) (ls' := [(0, .int b)]) (st' := [.int b]) (M' := s_M0) rfl ?_
      refine s_ek_if1 (T := 9) rfl rfl (fun h5 => ?_) (fun h5 => ?_)
      · replace h5 : b.toInt = 0 := h5
        omega
      · replace h5 : ¬ (b.toInt = 0) := h5
        replace h5 : ¬ b.toInt = 0 := by omega
        refine s_ek_bk 2 (P := 6) (ls' := [(0, .int b)]) (st' := [.int 1, .int b]) (M' := s_M0) rfl ?_
        refine s_ek_if2 (T := 13) rfl rfl (fun h6 => ?_) (fun h6 => ?_)
        · replace h6 : ¬ b.toInt = 1 := h6
          refine s_ek_bk 1 (P := 14) (ls' := [(0, .int b)]) (st' := [.int 0]) (M' := s_M0) rfl ?_
          refine s_ek_ret (o := some (.int 0)) (fun _ => rfl) ?_
          show s_Ek (s_rows 3 L xs) 1299 s_e153.1 28 [(0, .ref 0), (1, .int 33), (2, .int b)] [.int 0] s_M0 _
          refine s_ek_bk 2 (P := 32) (ls' := [(0, .ref 0), (1, .int 33), (2, .int b)]) (st' := [.int (-1)]) (M' := s_M0) rfl ?_
          refine s_ek_ret (o := some (.int (-1))) (fun _ => rfl) ?_
          refine ⟨(-1), rfl, ?_⟩
          show s_Ek (s_rows 3 L xs) 1299 s_e257.1 0 [(0, .ref 151), (1, .int 33), (2, .int b)] [] s_M0 _
          refine s_ek_bk 15 (P := 23) (ls' := [(0, .ref 151), (1, .int 33), (2, .int b)]) (st' := [.int 1, .int 0, .int b]) (M' := s_M0) rfl ?_
          refine s_ek_call (ν := s_e181.1) (P := 26) (as := [.int b, .int 0, .int 1]) (r := []) (fun _ => rfl) rfl ?_
          show s_Ek (s_rows 3 L xs) 1298 s_e181.1 0 [(0, .int b), (1, .int 0), (2, .int 1)] [] s_M0 _
          refine s_ek_bk 2 (P := 2) (ls' := [(0, .int b), (1, .int 0), (2, .int 1)]) (st' := [.int 0, .int b]) (M' := s_M0) rfl ?_
          refine s_ek_if2 (T := 14) rfl rfl (fun h7 => ?_) (fun h7 => ?_)
          · replace h7 : b.toInt < 0 := h7
            refine s_ek_bk 1 (P := 15) (ls' := [(0, .int b), (1, .int 0), (2, .int 1)]) (st' := [.int 0]) (M' := s_M0) rfl ?_
            refine s_ek_ret (o := some (.int 0)) (fun _ => rfl) ?_
            show s_Ek (s_rows 3 L xs) 1299 s_e257.1 26 [(0, .ref 151), (1, .int 33), (2, .int b)] [.int 0] s_M0 _
            refine s_ek_bk 2 (P := 30) (ls' := [(0, .ref 151), (1, .int 33), (2, .int b)]) (st' := [.int (-1)]) (M' := s_M0) rfl ?_
            refine s_ek_ret (o := some (.int (-1))) (fun _ => rfl) ?_
            exact rfl
          · replace h7 : ¬ (b.toInt < 0) := h7
            replace h7 : 0 ≤ b.toInt := by omega
            omega
        · replace h6 : ¬ (¬ b.toInt = 1) := h6
          replace h6 : b.toInt = 1 := by omega
          omega
    rcases Int.lt_or_le 1 b.toInt with h4 | h4
    · show s_Ek (s_rows 3 L xs) 1299 s_e153.1 0 [(0, .ref 0), (1, .int 33), (2, .int b)] [] s_M0 _
      refine s_ek_bk 5 (P := 8) (ls' := [(0, .ref 0), (1, .int 33), (2, .int b)]) (st' := [.int 3]) (M' := s_M0) rfl ?_
      refine s_ek_call (ν := s_e173.1) (P := 11) (as := [.int 3]) (r := []) (fun _ => rfl) rfl ?_
      show s_Ek (s_rows 3 L xs) 1298 s_e173.1 0 [(0, .int 3)] [] s_M0 _
      refine s_ek_bk 7 (P := 14) (ls' := [(0, .int 3)]) (st' := [.int 1]) (M' := s_M0) rfl ?_
      refine s_ek_ret (o := some (.int 1)) (fun _ => rfl) ?_
      show s_Ek (s_rows 3 L xs) 1299 s_e153.1 11 [(0, .ref 0), (1, .int 33), (2, .int b)] [.int 1] s_M0 _
      refine s_ek_bk 4 (P := 18) (ls' := [(0, .ref 0), (1, .int 33), (2, .int b)]) (st' := [.int 3]) (M' := s_M0) rfl ?_
      refine s_ek_call (ν := s_e173.1) (P := 21) (as := [.int 3]) (r := []) (fun _ => rfl) rfl ?_
      show s_Ek (s_rows 3 L xs) 1298 s_e173.1 0 [(0, .int 3)] [] s_M0 _
      refine s_ek_bk 7 (P := 14) (ls' := [(0, .int 3)]) (st' := [.int 1]) (M' := s_M0) rfl ?_
      refine s_ek_ret (o := some (.int 1)) (fun _ => rfl) ?_
      show s_Ek (s_rows 3 L xs) 1299 s_e153.1 21 [(0, .ref 0), (1, .int 33), (2, .int b)] [.int 1] s_M0 _
      refine s_ek_bk 2 (P := 25) (ls' := [(0, .ref 0), (1, .int 33), (2, .int b)]) (st' := [.int b]) (M' := s_M0) rfl ?_
      refine s_ek_call (ν := s_e174.1) (P := 28) (as := [.int b]) (r := []) (fun _ => rfl) rfl ?_
      show s_Ek (s_rows 3 L xs) 1298 s_e174.1 0 [(0, .int b)] [] s_M0 _
      refine s_ek_bk 1 (P := 1) (ls' := [(0, .int b)]) (st' := [.int b]) (M' := s_M0) rfl ?_
      refine s_ek_if1 (T := 9) rfl rfl (fun h5 => ?_) (fun h5 => ?_)
      · replace h5 : b.toInt = 0 := h5
        omega
      · replace h5 : ¬ (b.toInt = 0) := h5
        replace h5 : ¬ b.toInt = 0 := by omega
        refine s_ek_bk 2 (P := 6) (ls' := [(0, .int b)]) (st' := [.int 1, .int b]) (M' := s_M0) rfl ?_
        refine s_ek_if2 (T := 13) rfl rfl (fun h6 => ?_) (fun h6 => ?_)
        · replace h6 : ¬ b.toInt = 1 := h6
          refine s_ek_bk 1 (P := 14) (ls' := [(0, .int b)]) (st' := [.int 0]) (M' := s_M0) rfl ?_
          refine s_ek_ret (o := some (.int 0)) (fun _ => rfl) ?_
          show s_Ek (s_rows 3 L xs) 1299 s_e153.1 28 [(0, .ref 0), (1, .int 33), (2, .int b)] [.int 0] s_M0 _
          refine s_ek_bk 2 (P := 32) (ls' := [(0, .ref 0), (1, .int 33), (2, .int b)]) (st' := [.int (-1)]) (M' := s_M0) rfl ?_
          refine s_ek_ret (o := some (.int (-1))) (fun _ => rfl) ?_
          refine ⟨(-1), rfl, ?_⟩
          show s_Ek (s_rows 3 L xs) 1299 s_e257.1 0 [(0, .ref 151), (1, .int 33), (2, .int b)] [] s_M0 _
          refine s_ek_bk 15 (P := 23) (ls' := [(0, .ref 151), (1, .int 33), (2, .int b)]) (st' := [.int 1, .int 0, .int b]) (M' := s_M0) rfl ?_
          refine s_ek_call (ν := s_e181.1) (P := 26) (as := [.int b, .int 0, .int 1]) (r := []) (fun _ => rfl) rfl ?_
          show s_Ek (s_rows 3 L xs) 1298 s_e181.1 0 [(0, .int b), (1, .int 0), (2, .int 1)] [] s_M0 _
          refine s_ek_bk 2 (P := 2) (ls' := [(0, .int b), (1, .int 0), (2, .int 1)]) (st' := [.int 0, .int b]) (M' := s_M0) rfl ?_
          refine s_ek_if2 (T := 14) rfl rfl (fun h7 => ?_) (fun h7 => ?_)
          · replace h7 : b.toInt < 0 := h7
            omega
          · replace h7 : ¬ (b.toInt < 0) := h7
            replace h7 : 0 ≤ b.toInt := by omega
            refine s_ek_bk 2 (P := 7) (ls' := [(0, .int b), (1, .int 0), (2, .int 1)]) (st' := [.int 1, .int b]) (M' := s_M0) rfl ?_
            refine s_ek_if2 (T := 14) rfl rfl (fun h8 => ?_) (fun h8 => ?_)
            · replace h8 : 1 < b.toInt := h8
              refine s_ek_bk 1 (P := 15) (ls' := [(0, .int b), (1, .int 0), (2, .int 1)]) (st' := [.int 0]) (M' := s_M0) rfl ?_
              refine s_ek_ret (o := some (.int 0)) (fun _ => rfl) ?_
              show s_Ek (s_rows 3 L xs) 1299 s_e257.1 26 [(0, .ref 151), (1, .int 33), (2, .int b)] [.int 0] s_M0 _
              refine s_ek_bk 2 (P := 30) (ls' := [(0, .ref 151), (1, .int 33), (2, .int b)]) (st' := [.int (-1)]) (M' := s_M0) rfl ?_
              refine s_ek_ret (o := some (.int (-1))) (fun _ => rfl) ?_
              exact rfl
            · replace h8 : ¬ (1 < b.toInt) := h8
              replace h8 : b.toInt ≤ 1 := by omega
              omega
        · replace h6 : ¬ (¬ b.toInt = 1) := h6
          replace h6 : b.toInt = 1 := by omega
          omega
    rcases s_rg_0_1 h3 h4 with rfl | rfl
    · exact s_ek_run s_El_rows s_clj_132 ⟨0, rfl, s_ek_run s_El_rows s_clj_133 rfl⟩
    · exact s_ek_run s_El_rows s_clj_134 ⟨(-2), rfl, s_ek_run s_El_rows s_clj_135 rfl⟩
