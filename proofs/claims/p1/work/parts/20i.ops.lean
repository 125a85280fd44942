/-! the calls on fresh objects: meant -/
set_option maxRecDepth 1000000 in
theorem s_cli_0 : s_out (s_x s_prog s_fty s_ft (s_rows 2 0 (fun _ => 0)) 2227 1299 s_e150.1 0 (lv_args 0 [.ref 0, .int 0, .int 0]) [] s_M0) (some (.int 0)) s_M0 (s_M0.set 22 (13, ((List.replicate 125 (Value.int (-2)))))) = true := by decide +kernel
set_option maxRecDepth 1000000 in
theorem s_cli_1 : s_out (s_x s_prog s_fty s_ft (s_rows 2 0 (fun _ => 0)) 1846 1299 s_e254.1 0 (lv_args 0 [.ref 151, .int 0, .int 0]) [] (s_M0.set 22 (13, ((List.replicate 125 (Value.int (-2))))))) (some (.int 0)) (s_M0.set 22 (13, ((List.replicate 125 (Value.int (-2)))))) (((s_M0.set 22 (13, ((List.replicate 125 (Value.int (-2)))))).set 151 (11, ([Value.int 0, Value.ref 152, Value.int 0, Value.int 0, Value.int 0, Value.int 0, Value.int 0, Value.ref 153, Value.ref 154, Value.ref 155, Value.ref 156, Value.ref 157, Value.ref 158, Value.ref 159, Value.int 0, Value.ref 160, Value.ref 161, Value.ref 162, Value.int 0, Value.int 99, Value.ref 163, Value.ref 164, Value.ref 165, Value.int 0, Value.int 0, Value.ref 166, Value.ref 167, Value.ref 168, Value.ref 169, Value.ref 170, Value.int 0, Value.int (-1), Value.ref 171, Value.ref 172, Value.ref 173, Value.int 0, Value.int 0, Value.ref 174, Value.ref 175, Value.ref 176, Value.ref 177, Value.ref 178, Value.int 0, Value.ref 179, Value.int 0, Value.ref 180, Value.ref 181, Value.ref 182, Value.ref 183, Value.ref 184] : List Value))).set 173 (13, ((List.replicate 125 (Value.int (-2)))))) = true := by decide +kernel
set_option maxRecDepth 1000000 in
theorem s_cli_2 : s_out (s_x s_prog s_fty s_ft (s_rows 2 0 (fun _ => 0)) 2227 1299 s_e150.1 0 (lv_args 0 [.ref 0, .int 0, .int 1]) [] s_M0) (some (.int (-2))) s_M0 (s_M0.set 22 (13, ((List.replicate 125 (Value.int (-2)))))) = true := by decide +kernel
set_option maxRecDepth 1000000 in
theorem s_cli_3 : s_out (s_x s_prog s_fty s_ft (s_rows 2 0 (fun _ => 0)) 1845 1299 s_e254.1 0 (lv_args 0 [.ref 151, .int 0, .int 1]) [] (s_M0.set 22 (13, ((List.replicate 125 (Value.int (-2))))))) (some (.int (-2))) (s_M0.set 22 (13, ((List.replicate 125 (Value.int (-2)))))) (((s_M0.set 22 (13, ((List.replicate 125 (Value.int (-2)))))).set 151 (11, ([Value.int 0, Value.ref 152, Value.int 0, Value.int 0, Value.int 0, Value.int 0, Value.int 0, Value.ref 153, Value.ref 154, Value.ref 155, Value.ref 156, Value.ref 157, Value.ref 158, Value.ref 159, Value.int 0, Value.ref 160, Value.ref 161, Value.ref 162, Value.int 0, Value.int 99, Value.ref 163, Value.ref 164, Value.ref 165, Value.int 0, Value.int 0, Value.ref 166, Value.ref 167, Value.ref 168, Value.ref 169, Value.ref 170, Value.int 0, Value.int (-1), Value.ref 171, Value.ref 172, Value.ref 173, Value.int 0, Value.int 0, Value.ref 174, Value.ref 175, Value.ref 176, Value.ref 177, Value.ref 178, Value.int 0, Value.ref 179, Value.int 0, Value.ref 180, Value.ref 181, Value.ref 182, Value.ref 183, Value.ref 184] : List Value))).set 173 (13, ((List.replicate 125 (Value.int (-2)))))) = true := by decide +kernel
set_option maxRecDepth 1000000 in
theorem s_cli_4 : s_out (s_x s_prog s_fty s_ft (s_rows 2 0 (fun _ => 0)) 2227 1299 s_e150.1 0 (lv_args 0 [.ref 0, .int 1, .int 0]) [] s_M0) (some (.int 0)) s_M0 (s_M0.set 22 (13, ((List.replicate 125 (Value.int (-2)))))) = true := by decide +kernel
set_option maxRecDepth 1000000 in
theorem s_cli_5 : s_out (s_x s_prog s_fty s_ft (s_rows 2 0 (fun _ => 0)) 1846 1299 s_e254.1 0 (lv_args 0 [.ref 151, .int 1, .int 0]) [] (s_M0.set 22 (13, ((List.replicate 125 (Value.int (-2))))))) (some (.int 0)) (s_M0.set 22 (13, ((List.replicate 125 (Value.int (-2)))))) (((s_M0.set 22 (13, ((List.replicate 125 (Value.int (-2)))))).set 151 (11, ([Value.int 0, Value.ref 152, Value.int 0, Value.int 0, Value.int 0, Value.int 0, Value.int 0, Value.ref 153, Value.ref 154, Value.ref 155, Value.ref 156, Value.ref 157, Value.ref 158, Value.ref 159, Value.int 0, Value.ref 160, Value.ref 161, Value.ref 162, Value.int 0, Value.int 99, Value.ref 163, Value.ref 164, Value.ref 165, Value.int 0, Value.int 0, Value.ref 166, Value.ref 167, Value.ref 168, Value.ref 169, Value.ref 170, Value.int 0, Value.int (-1), Value.ref 171, Value.ref 172, Value.ref 173, Value.int 0, Value.int 0, Value.ref 174, Value.ref 175, Value.ref 176, Value.ref 177, Value.ref 178, Value.int 0, Value.ref 179, Value.int 0, Value.ref 180, Value.ref 181, Value.ref 182, Value.ref 183, Value.ref 184] : List Value))).set 173 (13, ((List.replicate 125 (Value.int (-2)))))) = true := by decide +kernel
set_option maxRecDepth 1000000 in
theorem s_cli_6 : s_out (s_x s_prog s_fty s_ft (s_rows 2 0 (fun _ => 0)) 2227 1299 s_e150.1 0 (lv_args 0 [.ref 0, .int 1, .int 1]) [] s_M0) (some (.int (-2))) s_M0 (s_M0.set 22 (13, ((List.replicate 125 (Value.int (-2)))))) = true := by decide +kernel
set_option maxRecDepth 1000000 in
theorem s_cli_7 : s_out (s_x s_prog s_fty s_ft (s_rows 2 0 (fun _ => 0)) 1845 1299 s_e254.1 0 (lv_args 0 [.ref 151, .int 1, .int 1]) [] (s_M0.set 22 (13, ((List.replicate 125 (Value.int (-2))))))) (some (.int (-2))) (s_M0.set 22 (13, ((List.replicate 125 (Value.int (-2)))))) (((s_M0.set 22 (13, ((List.replicate 125 (Value.int (-2)))))).set 151 (11, ([Value.int 0, Value.ref 152, Value.int 0, Value.int 0, Value.int 0, Value.int 0, Value.int 0, Value.ref 153, Value.ref 154, Value.ref 155, Value.ref 156, Value.ref 157, Value.ref 158, Value.ref 159, Value.int 0, Value.ref 160, Value.ref 161, Value.ref 162, Value.int 0, Value.int 99, Value.ref 163, Value.ref 164, Value.ref 165, Value.int 0, Value.int 0, Value.ref 166, Value.ref 167, Value.ref 168, Value.ref 169, Value.ref 170, Value.int 0, Value.int (-1), Value.ref 171, Value.ref 172, Value.ref 173, Value.int 0, Value.int 0, Value.ref 174, Value.ref 175, Value.ref 176, Value.ref 177, Value.ref 178, Value.int 0, Value.ref 179, Value.int 0, Value.ref 180, Value.ref 181, Value.ref 182, Value.ref 183, Value.ref 184] : List Value))).set 173 (13, ((List.replicate 125 (Value.int (-2)))))) = true := by decide +kernel
set_option maxRecDepth 1000000 in
theorem s_cli_8 : s_out (s_x s_prog s_fty s_ft (s_rows 2 0 (fun _ => 0)) 2227 1299 s_e150.1 0 (lv_args 0 [.ref 0, .int 2, .int 0]) [] s_M0) (some (.int 0)) s_M0 (s_M0.set 22 (13, ((List.replicate 125 (Value.int (-2)))))) = true := by decide +kernel
set_option maxRecDepth 1000000 in
theorem s_cli_9 : s_out (s_x s_prog s_fty s_ft (s_rows 2 0 (fun _ => 0)) 1846 1299 s_e254.1 0 (lv_args 0 [.ref 151, .int 2, .int 0]) [] (s_M0.set 22 (13, ((List.replicate 125 (Value.int (-2))))))) (some (.int 0)) (s_M0.set 22 (13, ((List.replicate 125 (Value.int (-2)))))) (((s_M0.set 22 (13, ((List.replicate 125 (Value.int (-2)))))).set 151 (11, ([Value.int 0, Value.ref 152, Value.int 0, Value.int 0, Value.int 0, Value.int 0, Value.int 0, Value.ref 153, Value.ref 154, Value.ref 155, Value.ref 156, Value.ref 157, Value.ref 158, Value.ref 159, Value.int 0, Value.ref 160, Value.ref 161, Value.ref 162, Value.int 0, Value.int 99, Value.ref 163, Value.ref 164, Value.ref 165, Value.int 0, Value.int 0, Value.ref 166, Value.ref 167, Value.ref 168, Value.ref 169, Value.ref 170, Value.int 0, Value.int (-1), Value.ref 171, Value.ref 172, Value.ref 173, Value.int 0, Value.int 0, Value.ref 174, Value.ref 175, Value.ref 176, Value.ref 177, Value.ref 178, Value.int 0, Value.ref 179, Value.int 0, Value.ref 180, Value.ref 181, Value.ref 182, Value.ref 183, Value.ref 184] : List Value))).set 173 (13, ((List.replicate 125 (Value.int (-2)))))) = true := by decide +kernel
set_option maxRecDepth 1000000 in
theorem s_cli_10 : s_out (s_x s_prog s_fty s_ft (s_rows 2 0 (fun _ => 0)) 2227 1299 s_e150.1 0 (lv_args 0 [.ref 0, .int 2, .int 1]) [] s_M0) (some (.int (-2))) s_M0 (s_M0.set 22 (13, ((List.replicate 125 (Value.int (-2)))))) = true := by decide +kernel
set_option maxRecDepth 1000000 in
theorem s_cli_11 : s_out (s_x s_prog s_fty s_ft (s_rows 2 0 (fun _ => 0)) 1845 1299 s_e254.1 0 (lv_args 0 [.ref 151, .int 2, .int 1]) [] (s_M0.set 22 (13, ((List.replicate 125 (Value.int (-2))))))) (some (.int (-2))) (s_M0.set 22 (13, ((List.replicate 125 (Value.int (-2)))))) (((s_M0.set 22 (13, ((List.replicate 125 (Value.int (-2)))))).set 151 (11, ([Value.int 0, Value.ref 152, Value.int 0, Value.int 0, Value.int 0, Value.int 0, Value.int 0, Value.ref 153, Value.ref 154, Value.ref 155, Value.ref 156, Value.ref 157, Value.ref 158, Value.ref 159, Value.int 0, Value.ref 160, Value.ref 161, Value.ref 162, Value.int 0, Value.int 99, Value.ref 163, Value.ref 164, Value.ref 165, Value.int 0, Value.int 0, Value.ref 166, Value.ref 167, Value.ref 168, Value.ref 169, Value.ref 170, Value.int 0, Value.int (-1), Value.ref 171, Value.ref 172, Value.ref 173, Value.int 0, Value.int 0, Value.ref 174, Value.ref 175, Value.ref 176, Value.ref 177, Value.ref 178, Value.int 0, Value.ref 179, Value.int 0, Value.ref 180, Value.ref 181, Value.ref 182, Value.ref 183, Value.ref 184] : List Value))).set 173 (13, ((List.replicate 125 (Value.int (-2)))))) = true := by decide +kernel
set_option maxHeartbeats 20000000 in
set_option maxRecDepth 100000 in
theorem s_op_meant (L : Nat) (xs : Nat → Int32) (a : Int32) (b : Int32) : s_Ek (s_rows 3 L xs) 1299 s_e150.1 0 (lv_args 0 [.ref 0, .int a, .int b]) [] s_M0 (fun v M1 => ∃ r : Int32, v = some (.int r) ∧ s_Ek (s_rows 3 L xs) 1299 s_e254.1 0 (lv_args 0 [.ref 151, .int a, .int b]) [] M1 (fun w _ => w = some (.int r))) := by
  rcases Int.lt_or_le a.toInt 0 with h1 | h1
  · rcases Int.lt_or_le b.toInt 0 with h3 | h3
    · show s_Ek (s_rows 3 L xs) 1299 s_e150.1 0 [(0, .ref 0), (1, .int a), (2, .int b)] [] s_M0 _
      refine s_ek_bk 1 (P := 1) (ls' := [(0, .ref 0), (1, .int a), (2, .int b)]) (st' := [.int a]) (M' := s_M0) rfl ?_
      refine s_ek_call (ν := s_e172.1) (P := 4) (as := [.int a]) (r := []) (fun _ => rfl) rfl ?_
      show s_Ek (s_rows 3 L xs) 1298 s_e172.1 0 [(0, .int a)] [] s_M0 _
      refine s_ek_bk 1 (P := 1) (ls' := [(0, .int a)]) (st' := [.int a]) (M' := s_M0) rfl ?_
      refine s_ek_if1 (T := 13) rfl rfl (fun h5 => ?_) (fun h5 => ?_)
      · replace h5 : a.toInt < 0 := h5
        refine s_ek_bk 1 (P := 14) (ls' := [(0, .int a)]) (st' := [.int 0]) (M' := s_M0) rfl ?_
        refine s_ek_ret (o := some (.int 0)) (fun _ => rfl) ?_
        show s_Ek (s_rows 3 L xs) 1299 s_e150.1 4 [(0, .ref 0), (1, .int a), (2, .int b)] [.int 0] s_M0 _
        refine s_ek_bk 2 (P := 15) (ls' := [(0, .ref 0), (1, .int a), (2, .int b)]) (st' := [.int (-1)]) (M' := s_M0) rfl ?_
        refine s_ek_ret (o := some (.int (-1))) (fun _ => rfl) ?_
        refine ⟨(-1), rfl, ?_⟩
        show s_Ek (s_rows 3 L xs) 1299 s_e254.1 0 [(0, .ref 151), (1, .int a), (2, .int b)] [] s_M0 _
        refine s_ek_bk 3 (P := 3) (ls' := [(0, .ref 151), (1, .int a), (2, .int b)]) (st' := [.int 2, .int 0, .int a]) (M' := s_M0) rfl ?_
        refine s_ek_call (ν := s_e181.1) (P := 6) (as := [.int a, .int 0, .int 2]) (r := []) (fun _ => rfl) rfl ?_
        show s_Ek (s_rows 3 L xs) 1298 s_e181.1 0 [(0, .int a), (1, .int 0), (2, .int 2)] [] s_M0 _
        refine s_ek_bk 2 (P := 2) (ls' := [(0, .int a), (1, .int 0), (2, .int 2)]) (st' := [.int 0, .int a]) (M' := s_M0) rfl ?_
        refine s_ek_if2 (T := 14) rfl rfl (fun h6 => ?_) (fun h6 => ?_)
        · replace h6 : a.toInt < 0 := h6
          refine s_ek_bk 1 (P := 15) (ls' := [(0, .int a), (1, .int 0), (2, .int 2)]) (st' := [.int 0]) (M' := s_M0) rfl ?_
          refine s_ek_ret (o := some (.int 0)) (fun _ => rfl) ?_
          show s_Ek (s_rows 3 L xs) 1299 s_e254.1 6 [(0, .ref 151), (1, .int a), (2, .int b)] [.int 0] s_M0 _
          refine s_ek_bk 2 (P := 19) (ls' := [(0, .ref 151), (1, .int a), (2, .int b)]) (st' := [.int (-1)]) (M' := s_M0) rfl ?_
          refine s_ek_ret (o := some (.int (-1))) (fun _ => rfl) ?_
          exact rfl
        · replace h6 : ¬ (a.toInt < 0) := h6
          replace h6 : 0 ≤ a.toInt := by omega
          omega
      · replace h5 : ¬ (a.toInt < 0) := h5
        replace h5 : 0 ≤ a.toInt := by omega
        omega
    rcases Int.lt_or_le 1 b.toInt with h4 | h4
    · show s_Ek (s_rows 3 L xs) 1299 s_e150.1 0 [(0, .ref 0), (1, .int a), (2, .int b)] [] s_M0 _
      refine s_ek_bk 1 (P := 1) (ls' := [(0, .ref 0), (1, .int a), (2, .int b)]) (st' := [.int a]) (M' := s_M0) rfl ?_
      refine s_ek_call (ν := s_e172.1) (P := 4) (as := [.int a]) (r := []) (fun _ => rfl) rfl ?_
      show s_Ek (s_rows 3 L xs) 1298 s_e172.1 0 [(0, .int a)] [] s_M0 _
      refine s_ek_bk 1 (P := 1) (ls' := [(0, .int a)]) (st' := [.int a]) (M' := s_M0) rfl ?_
      refine s_ek_if1 (T := 13) rfl rfl (fun h5 => ?_) (fun h5 => ?_)
      · replace h5 : a.toInt < 0 := h5
        refine s_ek_bk 1 (P := 14) (ls' := [(0, .int a)]) (st' := [.int 0]) (M' := s_M0) rfl ?_
        refine s_ek_ret (o := some (.int 0)) (fun _ => rfl) ?_
        show s_Ek (s_rows 3 L xs) 1299 s_e150.1 4 [(0, .ref 0), (1, .int a), (2, .int b)] [.int 0] s_M0 _
        refine s_ek_bk 2 (P := 15) (ls' := [(0, .ref 0), (1, .int a), (2, .int b)]) (st' := [.int (-1)]) (M' := s_M0) rfl ?_
        refine s_ek_ret (o := some (.int (-1))) (fun _ => rfl) ?_
        refine ⟨(-1), rfl, ?_⟩
        show s_Ek (s_rows 3 L xs) 1299 s_e254.1 0 [(0, .ref 151), (1, .int a), (2, .int b)] [] s_M0 _
        refine s_ek_bk 3 (P := 3) (ls' := [(0, .ref 151), (1, .int a), (2, .int b)]) (st' := [.int 2, .int 0, .int a]) (M' := s_M0) rfl ?_
        refine s_ek_call (ν := s_e181.1) (P := 6) (as := [.int a, .int 0, .int 2]) (r := []) (fun _ => rfl) rfl ?_
        show s_Ek (s_rows 3 L xs) 1298 s_e181.1 0 [(0, .int a), (1, .int 0), (2, .int 2)] [] s_M0 _
        refine s_ek_bk 2 (P := 2) (ls' := [(0, .int a), (1, .int 0), (2, .int 2)]) (st' := [.int 0, .int a]) (M' := s_M0) rfl ?_
        refine s_ek_if2 (T := 14) rfl rfl (fun h6 => ?_) (fun h6 => ?_)
        · replace h6 : a.toInt < 0 := h6
          refine s_ek_bk 1 (P := 15) (ls' := [(0, .int a), (1, .int 0), (2, .int 2)]) (st' := [.int 0]) (M' := s_M0) rfl ?_
          refine s_ek_ret (o := some (.int 0)) (fun _ => rfl) ?_
          show s_Ek (s_rows 3 L xs) 1299 s_e254.1 6 [(0, .ref 151), (1, .int a), (2, .int b)] [.int 0] s_M0 _
          refine s_ek_bk 2 (P := 19) (ls' := [(0, .ref 151), (1, .int a), (2, .int b)]) (st' := [.int (-1)]) (M' := s_M0) rfl ?_
          refine s_ek_ret (o := some (.int (-1))) (fun _ => rfl) ?_
          exact rfl
        · replace h6 : ¬ (a.toInt < 0) := h6
          replace h6 : 0 ≤ a.toInt := by omega
          omega
      · replace h5 : ¬ (a.toInt < 0) := h5
        replace h5 : 0 ≤ a.toInt := by omega
        omega
    rcases s_rg_0_1 h3 h4 with rfl | rfl
    · show s_Ek (s_rows 3 L xs) 1299 s_e150.1 0 [(0, .ref 0), (1, .int a), (2, .int 0)] [] s_M0 _
      refine s_ek_bk 1 (P := 1) (ls' := [(0, .ref 0), (1, .int a), (2, .int 0)]) (st' := [.int a]) (M' := s_M0) rfl ?_
      refine s_ek_call (ν := s_e172.1) (P := 4) (as := [.int a]) (r := []) (fun _ => rfl) rfl ?_
      show s_Ek (s_rows 3 L xs) 1298 s_e172.1 0 [(0, .int a)] [] s_M0 _
      refine s_ek_bk 1 (P := 1) (ls' := [(0, .int a)]) (st' := [.int a]) (M' := s_M0) rfl ?_
      refine s_ek_if1 (T := 13) rfl rfl (fun h5 => ?_) (fun h5 => ?_)
      · replace h5 : a.toInt < 0 := h5
        refine s_ek_bk 1 (P := 14) (ls' := [(0, .int a)]) (st' := [.int 0]) (M' := s_M0) rfl ?_
        refine s_ek_ret (o := some (.int 0)) (fun _ => rfl) ?_
        show s_Ek (s_rows 3 L xs) 1299 s_e150.1 4 [(0, .ref 0), (1, .int a), (2, .int 0)] [.int 0] s_M0 _
        refine s_ek_bk 2 (P := 15) (ls' := [(0, .ref 0), (1, .int a), (2, .int 0)]) (st' := [.int (-1)]) (M' := s_M0) rfl ?_
        refine s_ek_ret (o := some (.int (-1))) (fun _ => rfl) ?_
        refine ⟨(-1), rfl, ?_⟩
        show s_Ek (s_rows 3 L xs) 1299 s_e254.1 0 [(0, .ref 151), (1, .int a), (2, .int 0)] [] s_M0 _
        refine s_ek_bk 3 (P := 3) (ls' := [(0, .ref 151), (1, .int a), (2, .int 0)]) (st' := [.int 2, .int 0, .int a]) (M' := s_M0) rfl ?_
        refine s_ek_call (ν := s_e181.1) (P := 6) (as := [.int a, .int 0, .int 2]) (r := []) (fun _ => rfl) rfl ?_
        show s_Ek (s_rows 3 L xs) 1298 s_e181.1 0 [(0, .int a), (1, .int 0), (2, .int 2)] [] s_M0 _
        refine s_ek_bk 2 (P := 2) (ls' := [(0, .int a), (1, .int 0), (2, .int 2)]) (st' := [.int 0, .int a]) (M' := s_M0) rfl ?_
        refine s_ek_if2 (T := 14) rfl rfl (fun h6 => ?_) (fun h6 => ?_)
        · replace h6 : a.toInt < 0 := h6
          refine s_ek_bk 1 (P := 15) (ls' := [(0, .int a), (1, .int 0), (2, .int 2)]) (st' := [.int 0]) (M' := s_M0) rfl ?_
          refine s_ek_ret (o := some (.int 0)) (fun _ => rfl) ?_
          show s_Ek (s_rows 3 L xs) 1299 s_e254.1 6 [(0, .ref 151), (1, .int a), (2, .int 0)] [.int 0] s_M0 _
          refine s_ek_bk 2 (P := 19) (ls' := [(0, .ref 151), (1, .int a), (2, .int 0)]) (st' := [.int (-1)]) (M' := s_M0) rfl ?_
          refine s_ek_ret (o := some (.int (-1))) (fun _ => rfl) ?_
          exact rfl
        · replace h6 : ¬ (a.toInt < 0) := h6
          replace h6 : 0 ≤ a.toInt := by omega
          omega
      · replace h5 : ¬ (a.toInt < 0) := h5
        replace h5 : 0 ≤ a.toInt := by omega
        omega
    · show s_Ek (s_rows 3 L xs) 1299 s_e150.1 0 [(0, .ref 0), (1, .int a), (2, .int 1)] [] s_M0 _
      refine s_ek_bk 1 (P := 1) (ls' := [(0, .ref 0), (1, .int a), (2, .int 1)]) (st' := [.int a]) (M' := s_M0) rfl ?_
      refine s_ek_call (ν := s_e172.1) (P := 4) (as := [.int a]) (r := []) (fun _ => rfl) rfl ?_
      show s_Ek (s_rows 3 L xs) 1298 s_e172.1 0 [(0, .int a)] [] s_M0 _
      refine s_ek_bk 1 (P := 1) (ls' := [(0, .int a)]) (st' := [.int a]) (M' := s_M0) rfl ?_
      refine s_ek_if1 (T := 13) rfl rfl (fun h5 => ?_) (fun h5 => ?_)
      · replace h5 : a.toInt < 0 := h5
        refine s_ek_bk 1 (P := 14) (ls' := [(0, .int a)]) (st' := [.int 0]) (M' := s_M0) rfl ?_
        refine s_ek_ret (o := some (.int 0)) (fun _ => rfl) ?_
        show s_Ek (s_rows 3 L xs) 1299 s_e150.1 4 [(0, .ref 0), (1, .int a), (2, .int 1)] [.int 0] s_M0 _
        refine s_ek_bk 2 (P := 15) (ls' := [(0, .ref 0), (1, .int a), (2, .int 1)]) (st' := [.int (-1)]) (M' := s_M0) rfl ?_
        refine s_ek_ret (o := some (.int (-1))) (fun _ => rfl) ?_
        refine ⟨(-1), rfl, ?_⟩
        show s_Ek (s_rows 3 L xs) 1299 s_e254.1 0 [(0, .ref 151), (1, .int a), (2, .int 1)] [] s_M0 _
        refine s_ek_bk 3 (P := 3) (ls' := [(0, .ref 151), (1, .int a), (2, .int 1)]) (st' := [.int 2, .int 0, .int a]) (M' := s_M0) rfl ?_
        refine s_ek_call (ν := s_e181.1) (P := 6) (as := [.int a, .int 0, .int 2]) (r := []) (fun _ => rfl) rfl ?_
        show s_Ek (s_rows 3 L xs) 1298 s_e181.1 0 [(0, .int a), (1, .int 0), (2, .int 2)] [] s_M0 _
        refine s_ek_bk 2 (P := 2) (ls' := [(0, .int a), (1, .int 0), (2, .int 2)]) (st' := [.int 0, .int a]) (M' := s_M0) rfl ?_
        refine s_ek_if2 (T := 14) rfl rfl (fun h6 => ?_) (fun h6 => ?_)
        · replace h6 : a.toInt < 0 := h6
          refine s_ek_bk 1 (P := 15) (ls' := [(0, .int a), (1, .int 0), (2, .int 2)]) (st' := [.int 0]) (M' := s_M0) rfl ?_
          refine s_ek_ret (o := some (.int 0)) (fun _ => rfl) ?_
          show s_Ek (s_rows 3 L xs) 1299 s_e254.1 6 [(0, .ref 151), (1, .int a), (2, .int 1)] [.int 0] s_M0 _
          refine s_ek_bk 2 (P := 19) (ls' := [(0, .ref 151), (1, .int a), (2, .int 1)]) (st' := [.int (-1)]) (M' := s_M0) rfl ?_
          refine s_ek_ret (o := some (.int (-1))) (fun _ => rfl) ?_
          exact rfl
        · replace h6 : ¬ (a.toInt < 0) := h6
          replace h6 : 0 ≤ a.toInt := by omega
          omega
      · replace h5 : ¬ (a.toInt < 0) := h5
        replace h5 : 0 ≤ a.toInt := by omega
        omega
  rcases Int.lt_or_le 2 a.toInt with h2 | h2
  · rcases Int.lt_or_le b.toInt 0 with h3 | h3
    · show s_Ek (s_rows 3 L xs) 1299 s_e150.1 0 [(0, .ref 0), (1, .int a), (2, .int b)] [] s_M0 _
      refine s_ek_bk 1 (P := 1) (ls' := [(0, .ref 0), (1, .int a), (2, .int b)]) (st' := [.int a]) (M' := s_M0) rfl ?_
      refine s_ek_call (ν := s_e172.1) (P := 4) (as := [.int a]) (r := []) (fun _ => rfl) rfl ?_
      show s_Ek (s_rows 3 L xs) 1298 s_e172.1 0 [(0, .int a)] [] s_M0 _
      refine s_ek_bk 1 (P := 1) (ls' := [(0, .int a)]) (st' := [.int a]) (M' := s_M0) rfl ?_
      refine s_ek_if1 (T := 13) rfl rfl (fun h5 => ?_) (fun h5 => ?_)
      · replace h5 : a.toInt < 0 := h5
        omega
      · replace h5 : ¬ (a.toInt < 0) := h5
        replace h5 : 0 ≤ a.toInt := by omega
        refine s_ek_bk 2 (P := 6) (ls' := [(0, .int a)]) (st' := [.int 3, .int a]) (M' := s_M0) rfl ?_
        refine s_ek_if2 (T := 13) rfl rfl (fun h6 => ?_) (fun h6 => ?_)
        · replace h6 : 3 ≤ a.toInt := h6
          refine s_ek_bk 1 (P := 14) (ls' := [(0, .int a)]) (st' := [.int 0]) (M' := s_M0) rfl ?_
          refine s_ek_ret (o := some (.int 0)) (fun _ => rfl) ?_
          show s_Ek (s_rows 3 L xs) 1299 s_e150.1 4 [(0, .ref 0), (1, .int a), (2, .int b)] [.int 0] s_M0 _
          refine s_ek_bk 2 (P := 15) (ls' := [(0, .ref 0), (1, .int a), (2, .int b)]) (st' := [.int (-1)]) (M' := s_M0) rfl ?_
          refine s_ek_ret (o := some (.int (-1))) (fun _ => rfl) ?_
          refine ⟨(-1), rfl, ?_⟩
          show s_Ek (s_rows 3 L xs) 1299 s_e254.1 0 [(0, .ref 151), (1, .int a), (2, .int b)] [] s_M0 _
          refine s_ek_bk 3 (P := 3) (ls' := [(0, .ref 151), (1, .int a), (2, .int b)]) (st' := [.int 2, .int 0, .int a]) (M' := s_M0) rfl ?_
          refine s_ek_call (ν := s_e181.1) (P := 6) (as := [.int a, .int 0, .int 2]) (r := []) (fun _ => rfl) rfl ?_
          show s_Ek (s_rows 3 L xs) 1298 s_e181.1 0 [(0, .int a), (1, .int 0), (2, .int 2)] [] s_M0 _
          refine s_ek_bk 2 (P := 2) (ls' := [(0, .int a), (1, .int 0), (2, .int 2)]) (st' := [.int 0, .int a]) (M' := s_M0) rfl ?_
          refine s_ek_if2 (T := 14) rfl rfl (fun h7 => ?_) (fun h7 => ?_)
          · replace h7 : a.toInt < 0 := h7
            omega
          · replace h7 : ¬ (a.toInt < 0) := h7
            replace h7 : 0 ≤ a.toInt := by omega
            refine s_ek_bk 2 (P := 7) (ls' := [(0, .int a), (1, .int 0), (2, .int 2)]) (st' := [.int 2, .int a]) (M' := s_M0) rfl ?_
            refine s_ek_if2 (T := 14) rfl rfl (fun h8 => ?_) (fun h8 => ?_)
            · replace h8 : 2 < a.toInt := h8
              refine s_ek_bk 1 (P := 15) (ls' := [(0, .int a), (1, .int 0), (2, .int 2)]) (st' := [.int 0]) (M' := s_M0) rfl ?_
              refine s_ek_ret (o := some (.int 0)) (fun _ => rfl) ?_
              show s_Ek (s_rows 3 L xs) 1299 s_e254.1 6 [(0, .ref 151), (1, .int a), (2, .int b)] [.int 0] s_M0 _
              refine s_ek_bk 2 (P := 19) (ls' := [(0, .ref 151), (1, .int a), (2, .int b)]) (st' := [.int (-1)]) (M' := s_M0) rfl ?_
              refine s_ek_ret (o := some (.int (-1))) (fun _ => rfl) ?_
              exact rfl
            · replace h8 : ¬ (2 < a.toInt) := h8
              replace h8 : a.toInt ≤ 2 := by omega
              omega
        · replace h6 : ¬ (3 ≤ a.toInt) := h6
          replace h6 : a.toInt < 3 := by omega
          omega
    rcases Int.lt_or_le 1 b.toInt with h4 | h4
    · show s_Ek (s_rows 3 L xs) 1299 s_e150.1 0 [(0, .ref 0), (1, .int a), (2, .int b)] [] s_M0 _
      refine s_ek_bk 1 (P := 1) (ls' := [(0, .ref 0), (1, .int a), (2, .int b)]) (st' := [.int a]) (M' := s_M0) rfl ?_
      refine s_ek_call (ν := s_e172.1) (P := 4) (as := [.int a]) (r := []) (fun _ => rfl) rfl ?_
      show s_Ek (s_rows 3 L xs) 1298 s_e172.1 0 [(0, .int a)] [] s_M0 _
      refine s_ek_bk 1 (P := 1) (ls' := [(0, .int a)]) (st' := [.int a]) (M' := s_M0) rfl ?_
      refine s_ek_if1 (T := 13) rfl rfl (fun h5 => ?_) (fun h5 => ?_)
      · replace h5 : a.toInt < 0 := h5
        omega
      · replace h5 : ¬ (a.toInt < 0) := h5
        replace h5 : 0 ≤ a.toInt := by omega
        refine s_ek_bk 2 (P := 6) (ls' := [(0, .int a)]) (st' := [.int 3, .int a]) (M' := s_M0) rfl ?_
        refine s_ek_if2 (T := 13) rfl rfl (fun h6 => ?_) (fun h6 => ?_)
        · replace h6 : 3 ≤ a.toInt := h6
          refine s_ek_bk 1 (P := 14) (ls' := [(0, .int a)]) (st' := [.int 0]) (M' := s_M0) rfl ?_
          refine s_ek_ret (o := some (.int 0)) (fun _ => rfl) ?_
          show s_Ek (s_rows 3 L xs) 1299 s_e150.1 4 [(0, .ref 0), (1, .int a), (2, .int b)] [.int 0] s_M0 _
          refine s_ek_bk 2 (P := 15) (ls' := [(0, .ref 0), (1, .int a), (2, .int b)]) (st' := [.int (-1)]) (M' := s_M0) rfl ?_
          refine s_ek_ret (o := some (.int (-1))) (fun _ => rfl) ?_
          refine ⟨(-1), rfl, ?_⟩
          show s_Ek (s_rows 3 L xs) 1299 s_e254.1 0 [(0, .ref 151), (1, .int a), (2, .int b)] [] s_M0 _
          refine s_ek_bk 3 (P := 3) (ls' := [(0, .ref 151), (1, .int a), (2, .int b)]) (st' := [.int 2, .int 0, .int a]) (M' := s_M0) rfl ?_
          refine s_ek_call (ν := s_e181.1) (P := 6) (as := [.int a, .int 0, .int 2]) (r := []) (fun _ => rfl) rfl ?_
          show s_Ek (s_rows 3 L xs) 1298 s_e181.1 0 [(0, .int a), (1, .int 0), (2, .int 2)] [] s_M0 _
          refine s_ek_bk 2 (P := 2) (ls' := [(0, .int a), (1, .int 0), (2, .int 2)]) (st' := [.int 0, .int a]) (M' := s_M0) rfl ?_
          refine s_ek_if2 (T := 14) rfl rfl (fun h7 => ?_) (fun h7 => ?_)
          · replace h7 : a.toInt < 0 := h7
            omega
          · replace h7 : ¬ (a.toInt < 0) := h7
            replace h7 : 0 ≤ a.toInt := by omega
            refine s_ek_bk 2 (P := 7) (ls' := [(0, .int a), (1, .int 0), (2, .int 2)]) (st' := [.int 2, .int a]) (M' := s_M0) rfl ?_
            refine s_ek_if2 (T := 14) rfl rfl (fun h8 => ?_) (fun h8 => ?_)
            · replace h8 : 2 < a.toInt := h8
              refine s_ek_bk 1 (P := 15) (ls' := [(0, .int a), (1, .int 0), (2, .int 2)]) (st' := [.int 0]) (M' := s_M0) rfl ?_
              refine s_ek_ret (o := some (.int 0)) (fun _ => rfl) ?_
              show s_Ek (s_rows 3 L xs) 1299 s_e254.1 6 [(0, .ref 151), (1, .int a), (2, .int b)] [.int 0] s_M0 _
              refine s_ek_bk 2 (P := 19) (ls' := [(0, .ref 151), (1, .int a), (2, .int b)]) (st' := [.int (-1)]) (M' := s_M0) rfl ?_
              refine s_ek_ret (o := some (.int (-1))) (fun _ => rfl) ?_
              exact rfl
            · replace h8 : ¬ (2 < a.toInt) := h8
              replace h8 : a.toInt ≤ 2 := by omega
              omega
        · replace h6 : ¬ (3 ≤ a.toInt) := h6
          replace h6 : a.toInt < 3 := by omega
          omega
    rcases s_rg_0_1 h3 h4 with rfl | rfl
    · show s_Ek (s_rows 3 L xs) 1299 s_e150.1 0 [(0, .ref 0), (1, .int a), (2, .int 0)] [] s_M0 _
      refine s_ek_bk 1 (P := 1) (ls' := [(0, .ref 0), (1, .int a), (2, .int 0)]) (st' := [.int a]) (M' := s_M0) rfl ?_
      refine s_ek_call (ν := s_e172.1) (P := 4) (as := [.int a]) (r := []) (fun _ => rfl) rfl ?_
      show s_Ek (s_rows 3 L xs) 1298 s_e172.1 0 [(0, .int a)] [] s_M0 _
      refine s_ek_bk 1 (P := 1) (ls' := [(0, .int a)]) (st' := [.int a]) (M' := s_M0) rfl ?_
      refine s_ek_if1 (T := 13) rfl rfl (fun h5 => ?_) (fun h5 => ?_)
      · replace h5 : a.toInt < 0 := h5
        omega
      · replace h5 : ¬ (a.toInt < 0) := h5
        replace h5 : 0 ≤ a.toInt := by omega
        refine s_ek_bk 2 (P := 6) (ls' := [(0, .int a)]) (st' := [.int 3, .int a]) (M' := s_M0) rfl ?_
        refine s_ek_if2 (T := 13) rfl rfl (fun h6 => ?_) (fun h6 => ?_)
        · replace h6 : 3 ≤ a.toInt := h6
          refine s_ek_bk 1 (P := 14) (ls' := [(0, .int a)]) (st' := [.int 0]) (M' := s_M0) rfl ?_
          refine s_ek_ret (o := some (.int 0)) (fun _ => rfl) ?_
          show s_Ek (s_rows 3 L xs) 1299 s_e150.1 4 [(0, .ref 0), (1, .int a), (2, .int 0)] [.int 0] s_M0 _
          refine s_ek_bk 2 (P := 15) (ls' := [(0, .ref 0), (1, .int a), (2, .int 0)]) (st' := [.int (-1)]) (M' := s_M0) rfl ?_
          refine s_ek_ret (o := some (.int (-1))) (fun _ => rfl) ?_
          refine ⟨(-1), rfl, ?_⟩
          show s_Ek (s_rows 3 L xs) 1299 s_e254.1 0 [(0, .ref 151), (1, .int a), (2, .int 0)] [] s_M0 _
          refine s_ek_bk 3 (P := 3) (ls' := [(0, .ref 151), (1, .int a), (2, .int 0)]) (st' := [.int 2, .int 0, .int a]) (M' := s_M0) rfl ?_
          refine s_ek_call (ν := s_e181.1) (P := 6) (as := [.int a, .int 0, .int 2]) (r := []) (fun _ => rfl) rfl ?_
          show s_Ek (s_rows 3 L xs) 1298 s_e181.1 0 [(0, .int a), (1, .int 0), (2, .int 2)] [] s_M0 _
          refine s_ek_bk 2 (P := 2) (ls' := [(0, .int a), (1, .int 0), (2, .int 2)]) (st' := [.int 0, .int a]) (M' := s_M0) rfl ?_
          refine s_ek_if2 (T := 14) rfl rfl (fun h7 => ?_) (fun h7 => ?_)
          · replace h7 : a.toInt < 0 := h7
            omega
          · replace h7 : ¬ (a.toInt < 0) := h7
            replace h7 : 0 ≤ a.toInt := by omega
            refine s_ek_bk 2 (P := 7) (ls' := [(0, .int a), (1, .int 0), (2, .int 2)]) (st' := [.int 2, .int a]) (M' := s_M0) rfl ?_
            refine s_ek_if2 (T := 14) rfl rfl (fun h8 => ?_) (fun h8 => ?_)
            · replace h8 : 2 < a.toInt := h8
              refine s_ek_bk 1 (P := 15) (ls' := [(0, .int a), (1, .int 0), (2, .int 2)]) (st' := [.int 0]) (M' := s_M0) rfl ?_
              refine s_ek_ret (o := some (.int 0)) (fun _ => rfl) ?_
              show s_Ek (s_rows 3 L xs) 1299 s_e254.1 6 [(0, .ref 151), (1, .int a), (2, .int 0)] [.int 0] s_M0 _
              refine s_ek_bk 2 (P := 19) (ls' := [(0, .ref 151), (1, .int a), (2, .int 0)]) (st' := [.int (-1)]) (M' := s_M0) rfl ?_
              refine s_ek_ret (o := some (.int (-1))) (fun _ => rfl) ?_
              exact rfl
            · replace h8 : ¬ (2 < a.toInt) := h8
              replace h8 : a.toInt ≤ 2 := by omega
              omega
        · replace h6 : ¬ (3 ≤ a.toInt) := h6
          replace h6 : a.toInt < 3 := by omega
          omega
    · show s_Ek (s_rows 3 L xs) 1299 s_e150.1 0 [(0, .ref 0), (1, .int a), (2, .int 1)] [] s_M0 _
      refine s_ek_bk 1 (P := 1) (ls' := [(0, .ref 0), (1, .int a), (2, .int 1)]) (st' := [.int a]) (M' := s_M0) rfl ?_
      refine s_ek_call (ν := s_e172.1) (P := 4) (as := [.int a]) (r := []) (fun _ => rfl) rfl ?_
      show s_Ek (s_rows 3 L xs) 1298 s_e172.1 0 [(0, .int a)] [] s_M0 _
      refine s_ek_bk 1 (P := 1) (ls' := [(0, .int a)]) (st' := [.int a]) (M' := s_M0) rfl ?_
      refine s_ek_if1 (T := 13) rfl rfl (fun h5 => ?_) (fun h5 => ?_)
      · replace h5 : a.toInt < 0 := h5
        omega
      · replace h5 : ¬ (a.toInt < 0) := h5
        replace h5 : 0 ≤ a.toInt := by omega
        refine s_ek_bk 2 (P := 6) (ls' := [(0, .int a)]) (st' := [.int 3, .int a]) (M' := s_M0) rfl ?_
        refine s_ek_if2 (T := 13) rfl rfl (fun h6 => ?_) (fun h6 => ?_)
        · replace h6 : 3 ≤ a.toInt := h6
          refine s_ek_bk 1 (P := 14) (ls' := [(0, .int a)]) (st' := [.int 0]) (M' := s_M0) rfl ?_
          refine s_ek_ret (o := some (.int 0)) (fun _ => rfl) ?_
          show s_Ek (s_rows 3 L xs) 1299 s_e150.1 4 [(0, .ref 0), (1, .int a), (2, .int 1)] [.int 0] s_M0 _
          refine s_ek_bk 2 (P := 15) (ls' := [(0, .ref 0), (1, .int a), (2, .int 1)]) (st' := [.int (-1)]) (M' := s_M0) rfl ?_
          refine s_ek_ret (o := some (.int (-1))) (fun _ => rfl) ?_
          refine ⟨(-1), rfl, ?_⟩
          show s_Ek (s_rows 3 L xs) 1299 s_e254.1 0 [(0, .ref 151), (1, .int a), (2, .int 1)] [] s_M0 _
          refine s_ek_bk 3 (P := 3) (ls' := [(0, .ref 151), (1, .int a), (2, .int 1)]) (st' := [.int 2, .int 0, .int a]) (M' := s_M0) rfl ?_
          refine s_ek_call (ν := s_e181.1) (P := 6) (as := [.int a, .int 0, .int 2]) (r := []) (fun _ => rfl) rfl ?_
          show s_Ek (s_rows 3 L xs) 1298 s_e181.1 0 [(0, .int a), (1, .int 0), (2, .int 2)] [] s_M0 _
          refine s_ek_bk 2 (P := 2) (ls' := [(0, .int a), (1, .int 0), (2, .int 2)]) (st' := [.int 0, .int a]) (M' := s_M0) rfl ?_
          refine s_ek_if2 (T := 14) rfl rfl (fun h7 => ?_) (fun h7 => ?_)
          · replace h7 : a.toInt < 0 := h7
            omega
          · replace h7 : ¬ (a.toInt < 0) := h7
            replace h7 : 0 ≤ a.toInt := by omega
            refine s_ek_bk 2 (P := 7) (ls' := [(0, .int a), (1, .int 0), (2, .int 2)]) (st' := [.int 2, .int a]) (M' := s_M0) rfl ?_
            refine s_ek_if2 (T := 14) rfl rfl (fun h8 => ?_) (fun h8 => ?_)
            · replace h8 : 2 < a.toInt := h8
              refine s_ek_bk 1 (P := 15) (ls' := [(0, .int a), (1, .int 0), (2, .int 2)]) (st' := [.int 0]) (M' := s_M0) rfl ?_
              refine s_ek_ret (o := some (.int 0)) (fun _ => rfl) ?_
              show s_Ek (s_rows 3 L xs) 1299 s_e254.1 6 [(0, .ref 151), (1, .int a), (2, .int 1)] [.int 0] s_M0 _
              refine s_ek_bk 2 (P := 19) (ls' := [(0, .ref 151), (1, .int a), (2, .int 1)]) (st' := [.int (-1)]) (M' := s_M0) rfl ?_
              refine s_ek_ret (o := some (.int (-1))) (fun _ => rfl) ?_
              exact rfl
            · replace h8 : ¬ (2 < a.toInt) := h8
              replace h8 : a.toInt ≤ 2 := by omega
              omega
        · replace h6 : ¬ (3 ≤ a.toInt) := h6
          replace h6 : a.toInt < 3 := by omega
          omega
  rcases s_rg_0_2 h1 h2 with rfl | rfl | rfl
  · rcases Int.lt_or_le b.toInt 0 with h3 | h3
    · show s_Ek (s_rows 3 L xs) 1299 s_e150.1 0 [(0, .ref 0), (1, .int 0), (2, .int b)] [] s_M0 _
      refine s_ek_bk 1 (P := 1) (ls' := [(0, .ref 0), (1, .int 0), (2, .int b)]) (st' := [.int 0]) (M' := s_M0) rfl ?_
      refine s_ek_call (ν := s_e172.1) (P := 4) (as := [.int 0]) (r := []) (fun _ => rfl) rfl ?_
      show s_Ek (s_rows 3 L xs) 1298 s_e172.1 0 [(0, .int 0)] [] s_M0 _
      refine s_ek_bk 7 (P := 14) (ls' := [(0, .int 0)]) (st' := [.int 1]) (M' := s_M0) rfl ?_
      refine s_ek_ret (o := some (.int 1)) (fun _ => rfl) ?_
      show s_Ek (s_rows 3 L xs) 1299 s_e150.1 4 [(0, .ref 0), (1, .int 0), (2, .int b)] [.int 1] s_M0 _
      refine s_ek_bk 2 (P := 8) (ls' := [(0, .ref 0), (1, .int 0), (2, .int b)]) (st' := [.int b]) (M' := s_M0) rfl ?_
      refine s_ek_call (ν := s_e174.1) (P := 11) (as := [.int b]) (r := []) (fun _ => rfl) rfl ?_
      show s_Ek (s_rows 3 L xs) 1298 s_e174.1 0 [(0, .int b)] [] s_M0 _
      refine s_ek_bk 1 (P := 1) (ls' := [(0, .int b)]) (st' := [.int b]) (M' := s_M0) rfl ?_
      refine s_ek_if1 (T := 9) rfl rfl (fun h5 => ?_) (fun h5 => ?_)
      · replace h5 : b.toInt = 0 := h5
        omega
      · replace h5 : ¬ (b.toInt = 0) := h5
        replace h5 : ¬ b.toInt = 0 := by omega
        refine s_ek_bk 2 (P := 6) (ls' := [(0, .int b)]) (st' := [.int 1, .int b]) (M' := s_M0) rfl ?_
        refine s_ek_if2 (T := 13) rfl rfl (fun h6 => ?_) (fun h6 => ?_)
        · replace h6 : ¬ b.toInt = 1 := h6
          refine s_ek_bk 1 (P := 14) (ls' := [(0, .int b)]) (st' := [.int 0]) (M' := s_M0) rfl ?_
          refine s_ek_ret (o := some (.int 0)) (fun _ => rfl) ?_
          show s_Ek (s_rows 3 L xs) 1299 s_e150.1 11 [(0, .ref 0), (1, .int 0), (2, .int b)] [.int 0] s_M0 _
          refine s_ek_bk 2 (P := 15) (ls' := [(0, .ref 0), (1, .int 0), (2, .int b)]) (st' := [.int (-1)]) (M' := s_M0) rfl ?_
          refine s_ek_ret (o := some (.int (-1))) (fun _ => rfl) ?_
          refine ⟨(-1), rfl, ?_⟩
          show s_Ek (s_rows 3 L xs) 1299 s_e254.1 0 [(0, .ref 151), (1, .int 0), (2, .int b)] [] s_M0 _
          refine s_ek_bk 3 (P := 3) (ls' := [(0, .ref 151), (1, .int 0), (2, .int b)]) (st' := [.int 2, .int 0, .int 0]) (M' := s_M0) rfl ?_
          refine s_ek_call (ν := s_e181.1) (P := 6) (as := [.int 0, .int 0, .int 2]) (r := []) (fun _ => rfl) rfl ?_
          show s_Ek (s_rows 3 L xs) 1298 s_e181.1 0 [(0, .int 0), (1, .int 0), (2, .int 2)] [] s_M0 _
          refine s_ek_bk 8 (P := 15) (ls' := [(0, .int 0), (1, .int 0), (2, .int 2)]) (st' := [.int 1]) (M' := s_M0) rfl ?_
          refine s_ek_ret (o := some (.int 1)) (fun _ => rfl) ?_
          show s_Ek (s_rows 3 L xs) 1299 s_e254.1 6 [(0, .ref 151), (1, .int 0), (2, .int b)] [.int 1] s_M0 _
          refine s_ek_bk 4 (P := 12) (ls' := [(0, .ref 151), (1, .int 0), (2, .int b)]) (st' := [.int 1, .int 0, .int b]) (M' := s_M0) rfl ?_
          refine s_ek_call (ν := s_e181.1) (P := 15) (as := [.int b, .int 0, .int 1]) (r := []) (fun _ => rfl) rfl ?_
          show s_Ek (s_rows 3 L xs) 1298 s_e181.1 0 [(0, .int b), (1, .int 0), (2, .int 1)] [] s_M0 _
          refine s_ek_bk 2 (P := 2) (ls' := [(0, .int b), (1, .int 0), (2, .int 1)]) (st' := [.int 0, .int b]) (M' := s_M0) rfl ?_
          refine s_ek_if2 (T := 14) rfl rfl (fun h7 => ?_) (fun h7 => ?_)
          · replace h7 : b.toInt < 0 := h7
            refine s_ek_bk 1 (P := 15) (ls' := [(0, .int b), (1, .int 0), (2, .int 1)]) (st' := [.int 0]) (M' := s_M0) rfl ?_
            refine s_ek_ret (o := some (.int 0)) (fun _ => rfl) ?_
            show s_Ek (s_rows 3 L xs) 1299 s_e254.1 15 [(0, .ref 151), (1, .int 0), (2, .int b)] [.int 0] s_M0 _
            refine s_ek_bk 2 (P := 19) (ls' := [(0, .ref 151), (1, .int 0), (2, .int b)]) (st' := [.int (-1)]) (M' := s_M0) rfl ?_
            refine s_ek_ret (o := some (.int (-1))) (fun _ => rfl) ?_
            exact rfl
          · replace h7 : ¬ (b.toInt < 0) := h7
            replace h7 : 0 ≤ b.toInt := by omega
            omega
        · replace h6 : ¬ (¬ b.toInt = 1) := h6
          replace h6 : b.toInt = 1 := by omega
          omega
    rcases Int.lt_or_le 1 b.toInt with h4 | h4
    · show s_Ek (s_rows 3 L xs) 1299 s_e150.1 0 [(0, .ref 0), (1, .int 0), (2, .int b)] [] s_M0 _
      refine s_ek_bk 1 (P := 1) (ls' := [(0, .ref 0), (1, .int 0), (2, .int b)]) (st' := [.int 0]) (M' := s_M0) rfl ?_
      refine s_ek_call (ν := s_e172.1) (P := 4) (as := [.int 0]) (r := []) (fun _ => rfl) rfl ?_
      show s_Ek (s_rows 3 L xs) 1298 s_e172.1 0 [(0, .int 0)] [] s_M0 _
      refine s_ek_bk 7 (P := 14) (ls' := [(0, .int 0)]) (st' := [.int 1]) (M' := s_M0) rfl ?_
      refine s_ek_ret (o := some (.int 1)) (fun _ => rfl) ?_
      show s_Ek (s_rows 3 L xs) 1299 s_e150.1 4 [(0, .ref 0), (1, .int 0), (2, .int b)] [.int 1] s_M0 _
      refine s_ek_bk 2 (P := 8) (ls' := [(0, .ref 0), (1, .int 0), (2, .int b)]) (st' := [.int b]) (M' := s_M0) rfl ?_
      refine s_ek_call (ν := s_e174.1) (P := 11) (as := [.int b]) (r := []) (fun _ => rfl) rfl ?_
      show s_Ek (s_rows 3 L xs) 1298 s_e174.1 0 [(0, .int b)] [] s_M0 _
      refine s_ek_bk 1 (P := 1) (ls' := [(0, .int b)]) (st' := [.int b]) (M' := s_M0) rfl ?_
      refine s_ek_if1 (T := 9) rfl rfl (fun h5 => ?_) (fun h5 => ?_)
      · replace h5 : b.toInt = 0 := h5
        omega
      · replace h5 : ¬ (b.toInt = 0) := h5
        replace h5 : ¬ b.toInt = 0 := by omega
        refine s_ek_bk 2 (P := 6) (ls' := [(0, .int b)]) (st' := [.int 1, .int b]) (M' := s_M0) rfl ?_
        refine s_ek_if2 (T := 13) rfl rfl (fun h6 => ?_) (fun h6 => ?_)
        · replace h6 : ¬ b.toInt = 1 := h6
          refine s_ek_bk 1 (P := 14) (ls' := [(0, .int b)]) (st' := [.int 0]) (M' := s_M0) rfl ?_
          refine s_ek_ret (o := some (.int 0)) (fun _ => rfl) ?_
          show s_Ek (s_rows 3 L xs) 1299 s_e150.1 11 [(0, .ref 0), (1, .int 0), (2, .int b)] [.int 0] s_M0 _
          refine s_ek_bk 2 (P := 15) (ls' := [(0, .ref 0), (1, .int 0), (2, .int b)]) (st' := [.int (-1)]) (M' := s_M0) rfl ?_
          refine s_ek_ret (o := some (.int (-1))) (fun _ => rfl) ?_
          refine ⟨(-1), rfl, ?_⟩
          show s_Ek (s_rows 3 L xs) 1299 s_e254.1 0 [(0, .ref 151), (1, .int 0), (2, .int b)] [] s_M0 _
          refine s_ek_bk 3 (P := 3) (ls' := [(0, .ref 151), (1, .int 0), (2, .int b)]) (st' := [.int 2, .int 0, .int 0]) (M' := s_M0) rfl ?_
          refine s_ek_call (ν := s_e181.1) (P := 6) (as := [.int 0, .int 0, .int 2]) (r := []) (fun _ => rfl) rfl ?_
          show s_Ek (s_rows 3 L xs) 1298 s_e181.1 0 [(0, .int 0), (1, .int 0), (2, .int 2)] [] s_M0 _
          refine s_ek_bk 8 (P := 15) (ls' := [(0, .int 0), (1, .int 0), (2, .int 2)]) (st' := [.int 1]) (M' := s_M0) rfl ?_
          refine s_ek_ret (o := some (.int 1)) (fun _ => rfl) ?_
          show s_Ek (s_rows 3 L xs) 1299 s_e254.1 6 [(0, .ref 151), (1, .int 0), (2, .int b)] [.int 1] s_M0 _
          refine s_ek_bk 4 (P := 12) (ls' := [(0, .ref 151), (1, .int 0), (2, .int b)]) (st' := [.int 1, .int 0, .int b]) (M' := s_M0) rfl ?_
          refine s_ek_call (ν := s_e181.1) (P := 15) (as := [.int b, .int 0, .int 1]) (r := []) (fun _ => rfl) rfl ?_
          show s_Ek (s_rows 3 L xs) 1298 s_e181.1 0 [(0, .int b), (1, .int 0), (2, .int 1)] [] s_M0 _
          refine s_ek_bk 2 (P := 2) (ls' := [(0, .int b), (1, .int 0), (2, .int 1)]) (st' := [.int 0, .int b]) (M' := s_M0) rfl ?_
          refine s_ek_if2 (T := 14) rfl rfl (fun h7 => ?_) (fun h7 => ?_)
          · replace h7 : b.toInt < 0 := h7
            omega
          · replace h7 : ¬ (b.toInt < 0) := h7
            replace h7 : 0 ≤ b.toInt := by omega
            refine s_ek_bk 2 (P := 7) (ls' := [(0, .int b), (1, .int 0), (2, .int 1)]) (st' := [.int 1, .int b]) (M' := s_M0) rfl ?_
            refine s_ek_if2 (T := 14) rfl rfl (fun h8 => ?_) (fun h8 => ?_)
            · replace h8 : 1 < b.toInt := h8
              refine s_ek_bk 1 (P := 15) (ls' := [(0, .int b), (1, .int 0), (2, .int 1)]) (st' := [.int 0]) (M' := s_M0) rfl ?_
              refine s_ek_ret (o := some (.int 0)) (fun _ => rfl) ?_
              show s_Ek (s_rows 3 L xs) 1299 s_e254.1 15 [(0, .ref 151), (1, .int 0), (2, .int b)] [.int 0] s_M0 _
              refine s_ek_bk 2 (P := 19) (ls' := [(0, .ref 151), (1, .int 0), (2, .int b)]) (st' := [.int (-1)]) (M' := s_M0) rfl ?_
              refine s_ek_ret (o := some (.int (-1))) (fun _ => rfl) ?_
              exact rfl
            · replace h8 : ¬ (1 < b.toInt) := h8
              replace h8 : b.toInt ≤ 1 := by omega
              omega
        · replace h6 : ¬ (¬ b.toInt = 1) := h6
          replace h6 : b.toInt = 1 := by omega
          omega
    rcases s_rg_0_1 h3 h4 with rfl | rfl
    · exact s_ek_run s_El_rows s_cli_0 ⟨0, rfl, s_ek_run s_El_rows s_cli_1 rfl⟩
    · exact s_ek_run s_El_rows s_cli_2 ⟨(-2), rfl, s_ek_run s_El_rows s_cli_3 rfl⟩
  · rcases Int.lt_or_le b.toInt 0 with h3 | h3
    · show s_Ek (s_rows 3 L xs) 1299 s_e150.1 0 [(0, .ref 0), (1, .int 1), (2, .int b)] [] s_M0 _
      refine s_ek_bk 1 (P := 1) (ls' := [(0, .ref 0), (1, .int 1), (2, .int b)]) (st' := [.int 1]) (M' := s_M0) rfl ?_
      refine s_ek_call (ν := s_e172.1) (P := 4) (as := [.int 1]) (r := []) (fun _ => rfl) rfl ?_
      show s_Ek (s_rows 3 L xs) 1298 s_e172.1 0 [(0, .int 1)] [] s_M0 _
      refine s_ek_bk 7 (P := 14) (ls' := [(0, .int 1)]) (st' := [.int 1]) (M' := s_M0) rfl ?_
      refine s_ek_ret (o := some (.int 1)) (fun _ => rfl) ?_
      show s_Ek (s_rows 3 L xs) 1299 s_e150.1 4 [(0, .ref 0), (1, .int 1), (2, .int b)] [.int 1] s_M0 _
      refine s_ek_bk 2 (P := 8) (ls' := [(0, .ref 0), (1, .int 1), (2, .int b)]) (st' := [.int b]) (M' := s_M0) rfl ?_
      refine s_ek_call (ν := s_e174.1) (P := 11) (as := [.int b]) (r := []) (fun _ => rfl) rfl ?_
      show s_Ek (s_rows 3 L xs) 1298 s_e174.1 0 [(0, .int b)] [] s_M0 _
      refine s_ek_bk 1 (P := 1) (ls' := [(0, .int b)]) (st' := [.int b]) (M' := s_M0) rfl ?_
      refine s_ek_if1 (T := 9) rfl rfl (fun h5 => ?_) (fun h5 => ?_)
      · replace h5 : b.toInt = 0 := h5
        omega
      · replace h5 : ¬ (b.toInt = 0) := h5
        replace h5 : ¬ b.toInt = 0 := by omega
        refine s_ek_bk 2 (P := 6) (ls' := [(0, .int b)]) (st' := [.int 1, .int b]) (M' := s_M0) rfl ?_
        refine s_ek_if2 (T := 13) rfl rfl (fun h6 => ?_) (fun h6 => ?_)
        · replace h6 : ¬ b.toInt = 1 := h6
          refine s_ek_bk 1 (P := 14) (ls' := [(0, .int b)]) (st' := [.int 0]) (M' := s_M0) rfl ?_
          refine s_ek_ret (o := some (.int 0)) (fun _ => rfl) ?_
          show s_Ek (s_rows 3 L xs) 1299 s_e150.1 11 [(0, .ref 0), (1, .int 1), (2, .int b)] [.int 0] s_M0 _
          refine s_ek_bk 2 (P := 15) (ls' := [(0, .ref 0), (1, .int 1), (2, .int b)]) (st' := [.int (-1)]) (M' := s_M0) rfl ?_
          refine s_ek_ret (o := some (.int (-1))) (fun _ => rfl) ?_
          refine ⟨(-1), rfl, ?_⟩
          show s_Ek (s_rows 3 L xs) 1299 s_e254.1 0 [(0, .ref 151), (1, .int 1), (2, .int b)] [] s_M0 _
          refine s_ek_bk 3 (P := 3) (ls' := [(0, .ref 151), (1, .int 1), (2, .int b)]) (st' := [.int 2, .int 0, .int 1]) (M' := s_M0) rfl ?_
          refine s_ek_call (ν := s_e181.1) (P := 6) (as := [.int 1, .int 0, .int 2]) (r := []) (fun _ => rfl) rfl ?_
          show s_Ek (s_rows 3 L xs) 1298 s_e181.1 0 [(0, .int 1), (1, .int 0), (2, .int 2)] [] s_M0 _
          refine s_ek_bk 8 (P := 15) (ls' := [(0, .int 1), (1, .int 0), (2, .int 2)]) (st' := [.int 1]) (M' := s_M0) rfl ?_
          refine s_ek_ret (o := some (.int 1)) (fun _ => rfl) ?_
          show s_Ek (s_rows 3 L xs) 1299 s_e254.1 6 [(0, .ref 151), (1, .int 1), (2, .int b)] [.int 1] s_M0 _
          refine s_ek_bk 4 (P := 12) (ls' := [(0, .ref 151), (1, .int 1), (2, .int b)]) (st' := [.int 1, .int 0, .int b]) (M' := s_M0) rfl ?_
          refine s_ek_call (ν := s_e181.1) (P := 15) (as := [.int b, .int 0, .int 1]) (r := []) (fun _ => rfl) rfl ?_
          show s_Ek (s_rows 3 L xs) 1298 s_e181.1 0 [(0, .int b), (1, .int 0), (2, .int 1)] [] s_M0 _
          refine s_ek_bk 2 (P := 2) (ls' := [(0, .int b), (1, .int 0), (2, .int 1)]) (st' := [.int 0, .int b]) (M' := s_M0) rfl ?_
          refine s_ek_if2 (T := 14) rfl rfl (fun h7 => ?_) (fun h7 => ?_)
          · replace h7 : b.toInt < 0 := h7
            refine s_ek_bk 1 (P := 15) (ls' := [(0, .int b), (1, .int 0), (2, .int 1)]) (st' := [.int 0]) (M' := s_M0) rfl ?_
            refine s_ek_ret (o := some (.int 0)) (fun _ => rfl) ?_
            show s_Ek (s_rows 3 L xs) 1299 s_e254.1 15 [(0, .ref 151), (1, .int 1), (2, .int b)] [.int 0] s_M0 _
            refine s_ek_bk 2 (P := 19) (ls' := [(0, .ref 151), (1, .int 1), (2, .int b)]) (st' := [.int (-1)]) (M' := s_M0) rfl ?_
            refine s_ek_ret (o := some (.int (-1))) (fun _ => rfl) ?_
            exact rfl
          · replace h7 : ¬ (b.toInt < 0) := h7
            replace h7 : 0 ≤ b.toInt := by omega
            omega
        · replace h6 : ¬ (¬ b.toInt = 1) := h6
          replace h6 : b.toInt = 1 := by omega
          omega
    rcases Int.lt_or_le 1 b.toInt with h4 | h4
    · show s_Ek (s_rows 3 L xs) 1299 s_e150.1 0 [(0, .ref 0), (1, .int 1), (2, .int b)] [] s_M0 _
      refine s_ek_bk 1 (P := 1) (ls' := [(0, .ref 0), (1, .int 1), (2, .int b)]) (st' := [.int 1]) (M' := s_M0) rfl ?_
      refine s_ek_call (ν := s_e172.1) (P := 4) (as := [.int 1]) (r := []) (fun _ => rfl) rfl ?_
      show s_Ek (s_rows 3 L xs) 1298 s_e172.1 0 [(0, .int 1)] [] s_M0 _
      refine s_ek_bk 7 (P := 14) (ls' := [(0, .int 1)]) (st' := [.int 1]) (M' := s_M0) rfl ?_
      refine s_ek_ret (o := some (.int 1)) (fun _ => rfl) ?_
      show s_Ek (s_rows 3 L xs) 1299 s_e150.1 4 [(0, .ref 0), (1, .int 1), (2, .int b)] [.int 1] s_M0 _
      refine s_ek_bk 2 (P := 8) (ls' := [(0, .ref 0), (1, .int 1), (2, .int b)]) (st' := [.int b]) (M' := s_M0) rfl ?_
      refine s_ek_call (ν := s_e174.1) (P := 11) (as := [.int b]) (r := []) (fun _ => rfl) rfl ?_
      show s_Ek (s_rows 3 L xs) 1298 s_e174.1 0 [(0, .int b)] [] s_M0 _
      refine s_ek_bk 1 (P := 1) (ls' := [(0, .int b)]) (st' := [.int b]) (M' := s_M0) rfl ?_
      refine s_ek_if1 (T := 9) rfl rfl (fun h5 => ?_) (fun h5 => ?_)
      · replace h5 : b.toInt = 0 := h5
        omega
      · replace h5 : ¬ (b.toInt = 0) := h5
        replace h5 : ¬ b.toInt = 0 := by omega
        refine s_ek_bk 2 (P := 6) (ls' := [(0, .int b)]) (st' := [.int 1, .int b]) (M' := s_M0) rfl ?_
        refine s_ek_if2 (T := 13) rfl rfl (fun h6 => ?_) (fun h6 => ?_)
        · replace h6 : ¬ b.toInt = 1 := h6
          refine s_ek_bk 1 (P := 14) (ls' := [(0, .int b)]) (st' := [.int 0]) (M' := s_M0) rfl ?_
          refine s_ek_ret (o := some (.int 0)) (fun _ => rfl) ?_
          show s_Ek (s_rows 3 L xs) 1299 s_e150.1 11 [(0, .ref 0), (1, .int 1), (2, .int b)] [.int 0] s_M0 _
          refine s_ek_bk 2 (P := 15) (ls' := [(0, .ref 0), (1, .int 1), (2, .int b)]) (st' := [.int (-1)]) (M' := s_M0) rfl ?_
          refine s_ek_ret (o := some (.int (-1))) (fun _ => rfl) ?_
          refine ⟨(-1), rfl, ?_⟩
          show s_Ek (s_rows 3 L xs) 1299 s_e254.1 0 [(0, .ref 151), (1, .int 1), (2, .int b)] [] s_M0 _
          refine s_ek_bk 3 (P := 3) (ls' := [(0, .ref 151), (1, .int 1), (2, .int b)]) (st' := [.int 2, .int 0, .int 1]) (M' := s_M0) rfl ?_
          refine s_ek_call (ν := s_e181.1) (P := 6) (as := [.int 1, .int 0, .int 2]) (r := []) (fun _ => rfl) rfl ?_
          show s_Ek (s_rows 3 L xs) 1298 s_e181.1 0 [(0, .int 1), (1, .int 0), (2, .int 2)] [] s_M0 _
          refine s_ek_bk 8 (P := 15) (ls' := [(0, .int 1), (1, .int 0), (2, .int 2)]) (st' := [.int 1]) (M' := s_M0) rfl ?_
          refine s_ek_ret (o := some (.int 1)) (fun _ => rfl) ?_
          show s_Ek (s_rows 3 L xs) 1299 s_e254.1 6 [(0, .ref 151), (1, .int 1), (2, .int b)] [.int 1] s_M0 _
          refine s_ek_bk 4 (P := 12) (ls' := [(0, .ref 151), (1, .int 1), (2, .int b)]) (st' := [.int 1, .int 0, .int b]) (M' := s_M0) rfl ?_
          refine s_ek_call (ν := s_e181.1) (P := 15) (as := [.int b, .int 0, .int 1]) (r := []) (fun _ => rfl) rfl ?_
          show s_Ek (s_rows 3 L xs) 1298 s_e181.1 0 [(0, .int b), (1, .int 0), (2, .int 1)] [] s_M0 _
          refine s_ek_bk 2 (P := 2) (ls' := [(0, .int b), (1, .int 0), (2, .int 1)]) (st' := [.int 0, .int b]) (M' := s_M0) rfl ?_
          refine s_ek_if2 (T := 14) rfl rfl (fun h7 => ?_) (fun h7 => ?_)
          · replace h7 : b.toInt < 0 := h7
            omega
          · replace h7 : ¬ (b.toInt < 0) := h7
            replace h7 : 0 ≤ b.toInt := by omega
            refine s_ek_bk 2 (P := 7) (ls' := [(0, .int b), (1, .int 0), (2, .int 1)]) (st' := [.int 1, .int b]) (M' := s_M0) rfl ?_
            refine s_ek_if2 (T := 14) rfl rfl (fun h8 => ?_) (fun h8 => ?_)
            · replace h8 : 1 < b.toInt := h8
              refine s_ek_bk 1 (P := 15) (ls' := [(0, .int b), (1, .int 0), (2, .int 1)]) (st' := [.int 0]) (M' := s_M0) rfl ?_
              refine s_ek_ret (o := some (.int 0)) (fun _ => rfl) ?_
              show s_Ek (s_rows 3 L xs) 1299 s_e254.1 15 [(0, .ref 151), (1, .int 1), (2, .int b)] [.int 0] s_M0 _
              refine s_ek_bk 2 (P := 19) (ls' := [(0, .ref 151), (1, .int 1), (2, .int b)]) (st' := [.int (-1)]) (M' := s_M0) rfl ?_
              refine s_ek_ret (o := some (.int (-1))) (fun _ => rfl) ?_
              exact rfl
            · replace h8 : ¬ (1 < b.toInt) := h8
              replace h8 : b.toInt ≤ 1 := by omega
              omega
        · replace h6 : ¬ (¬ b.toInt = 1) := h6
          replace h6 : b.toInt = 1 := by omega
          omega
    rcases s_rg_0_1 h3 h4 with rfl | rfl
    · exact s_ek_run s_El_rows s_cli_4 ⟨0, rfl, s_ek_run s_El_rows s_cli_5 rfl⟩
    · exact s_ek_run s_El_rows s_cli_6 ⟨(-2), rfl, s_ek_run s_El_rows s_cli_7 rfl⟩
  · rcases Int.lt_or_le b.toInt 0 with h3 | h3
    · show s_Ek (s_rows 3 L xs) 1299 s_e150.1 0 [(0, .ref 0), (1, .int 2), (2, .int b)] [] s_M0 _
      refine s_ek_bk 1 (P := 1) (ls' := [(0, .ref 0), (1, .int 2), (2, .int b)]) (st' := [.int 2]) (M' := s_M0) rfl ?_
      refine s_ek_call (ν := s_e172.1) (P := 4) (as := [.int 2]) (r := []) (fun _ => rfl) rfl ?_
      show s_Ek (s_rows 3 L xs) 1298 s_e172.1 0 [(0, .int 2)] [] s_M0 _
      refine s_ek_bk 7 (P := 14) (ls' := [(0, .int 2)]) (st' := [.int 1]) (M' := s_M0) rfl ?_
      refine s_ek_ret (o := some (.int 1)) (fun _ => rfl) ?_
      show s_Ek (s_rows 3 L xs) 1299 s_e150.1 4 [(0, .ref 0), (1, .int 2), (2, .int b)] [.int 1] s_M0 _
      refine s_ek_bk 2 (P := 8) (ls' := [(0, .ref 0), (1, .int 2), (2, .int b)]) (st' := [.int b]) (M' := s_M0) rfl ?_
      refine s_ek_call (ν := s_e174.1) (P := 11) (as := [.int b]) (r := []) (fun _ => rfl) rfl ?_
      show s_Ek (s_rows 3 L xs) 1298 s_e174.1 0 [(0, .int b)] [] s_M0 _
      refine s_ek_bk 1 (P := 1) (ls' := [(0, .int b)]) (st' := [.int b]) (M' := s_M0) rfl ?_
      refine s_ek_if1 (T := 9) rfl rfl (fun h5 => ?_) (fun h5 => ?_)
      · replace h5 : b.toInt = 0 := h5
        omega
      · replace h5 : ¬ (b.toInt = 0) := h5
        replace h5 : ¬ b.toInt = 0 := by omega
        refine s_ek_bk 2 (P := 6) (ls' := [(0, .int b)]) (st' := [.int 1, .int b]) (M' := s_M0) rfl ?_
        refine s_ek_if2 (T := 13) rfl rfl (fun h6 => ?_) (fun h6 => ?_)
        · replace h6 : ¬ b.toInt = 1 := h6
          refine s_ek_bk 1 (P := 14) (ls' := [(0, .int b)]) (st' := [.int 0]) (M' := s_M0) rfl ?_
          refine s_ek_ret (o := some (.int 0)) (fun _ => rfl) ?_
          show s_Ek (s_rows 3 L xs) 1299 s_e150.1 11 [(0, .ref 0), (1, .int 2), (2, .int b)] [.int 0] s_M0 _
          refine s_ek_bk 2 (P := 15) (ls' := [(0, .ref 0), (1, .int 2), (2, .int b)]) (st' := [.int (-1)]) (M' := s_M0) rfl ?_
          refine s_ek_ret (o := some (.int (-1))) (fun _ => rfl) ?_
          refine ⟨(-1), rfl, ?_⟩
          show s_Ek (s_rows 3 L xs) 1299 s_e254.1 0 [(0, .ref 151), (1, .int 2), (2, .int b)] [] s_M0 _
          refine s_ek_bk 3 (P := 3) (ls' := [(0, .ref 151), (1, .int 2), (2, .int b)]) (st' := [.int 2, .int 0, .int 2]) (M' := s_M0) rfl ?_
          refine s_ek_call (ν := s_e181.1) (P := 6) (as := [.int 2, .int 0, .int 2]) (r := []) (fun _ => rfl) rfl ?_
          show s_Ek (s_rows 3 L xs) 1298 s_e181.1 0 [(0, .int 2), (1, .int 0), (2, .int 2)] [] s_M0 _
          refine s_ek_bk 8 (P := 15) (ls' := [(0, .int 2), (1, .int 0), (2, .int 2)]) (st' := [.int 1]) (M' := s_M0) rfl ?_
          refine s_ek_ret (o := some (.int 1)) (fun _ => rfl) ?_
          show s_Ek (s_rows 3 L xs) 1299 s_e254.1 6 [(0, .ref 151), (1, .int 2), (2, .int b)] [.int 1] s_M0 _
          refine s_ek_bk 4 (P := 12) (ls' := [(0, .ref 151), (1, .int 2), (2, .int b)]) (st' := [.int 1, .int 0, .int b]) (M' := s_M0) rfl ?_
          refine s_ek_call (ν := s_e181.1) (P := 15) (as := [.int b, .int 0, .int 1]) (r := []) (fun _ => rfl) rfl ?_
          show s_Ek (s_rows 3 L xs) 1298 s_e181.1 0 [(0, .int b), (1, .int 0), (2, .int 1)] [] s_M0 _
          refine s_ek_bk 2 (P := 2) (ls' := [(0, .int b), (1, .int 0), (2, .int 1)]) (st' := [.int 0, .int b]) (M' := s_M0) rfl ?_
          refine s_ek_if2 (T := 14) rfl rfl (fun h7 => ?_) (fun h7 => ?_)
          · replace h7 : b.toInt < 0 := h7
            refine s_ek_bk 1 (P := 15) (ls' := [(0, .int b), (1, .int 0), (2, .int 1)]) (st' := [.int 0]) (M' := s_M0) rfl ?_
            refine s_ek_ret (o := some (.int 0)) (fun _ => rfl) ?_
            show s_Ek (s_rows 3 L xs) 1299 s_e254.1 15 [(0, .ref 151), (1, .int 2), (2, .int b)] [.int 0] s_M0 _
            refine s_ek_bk 2 (P := 19) (ls' := [(0, .ref 151), (1, .int 2), (2, .int b)]) (st' := [.int (-1)]) (M' := s_M0) rfl ?_
            refine s_ek_ret (o := some (.int (-1))) (fun _ => rfl) ?_
            exact rfl
          · replace h7 : ¬ (b.toInt < 0) := h7
            replace h7 : 0 ≤ b.toInt := by omega
            omega
        · replace h6 : ¬ (¬ b.toInt = 1) := h6
          replace h6 : b.toInt = 1 := by omega
          omega
    rcases Int.lt_or_le 1 b.toInt with h4 | h4
    · show s_Ek (s_rows 3 L xs) 1299 s_e150.1 0 [(0, .ref 0), (1, .int 2), (2, .int b)] [] s_M0 _
      refine s_ek_bk 1 (P := 1) (ls' := [(0, .ref 0), (1, .int 2), (2, .int b)]) (st' := [.int 2]) (M' := s_M0) rfl ?_
      refine s_ek_call (ν := s_e172.1) (P := 4) (as := [.int 2]) (r := []) (fun _ => rfl) rfl ?_
      show s_Ek (s_rows 3 L xs) 1298 s_e172.1 0 [(0, .int 2)] [] s_M0 _
      refine s_ek_bk 7 (P := 14) (ls' := [(0, .int 2)]) (st' := [.int 1]) (M' := s_M0) rfl ?_
      refine s_ek_ret (o := some (.int 1)) (fun _ => rfl) ?_
      show s_Ek (s_rows 3 L xs) 1299 s_e150.1 4 [(0, .ref 0), (1, .int 2), (2, .int b)] [.int 1] s_M0 _
      refine s_ek_bk 2 (P := 8) (ls' := [(0, .ref 0), (1, .int 2), (2, .int b)]) (st' := [.int b]) (M' := s_M0) rfl ?_
      refine s_ek_call (ν := s_e174.1) (P := 11) (as := [.int b]) (r := []) (fun _ => rfl) rfl ?_
      show s_Ek (s_rows 3 L xs) 1298 s_e174.1 0 [(0, .int b)] [] s_M0 _
      refine s_ek_bk 1 (P := 1) (ls' := [(0, .int b)]) (st' := [.int b]) (M' := s_M0) rfl ?_
      refine s_ek_if1 (T := 9) rfl rfl (fun h5 => ?_) (fun h5 => ?_)
      · replace h5 : b.toInt = 0 := h5
        omega
      · replace h5 : ¬ (b.toInt = 0) := h5
        replace h5 : ¬ b.toInt = 0 := by omega
        refine s_ek_bk 2 (P := 6) (ls' := [(0, .int b)]) (st' := [.int 1, .int b]) (M' := s_M0) rfl ?_
        refine s_ek_if2 (T := 13) rfl rfl (fun h6 => ?_) (fun h6 => ?_)
        · replace h6 : ¬ b.toInt = 1 := h6
          refine s_ek_bk 1 (P := 14) (ls' := [(0, .int b)]) (st' := [.int 0]) (M' := s_M0) rfl ?_
          refine s_ek_ret (o := some (.int 0)) (fun _ => rfl) ?_
          show s_Ek (s_rows 3 L xs) 1299 s_e150.1 11 [(0, .ref 0), (1, .int 2), (2, .int b)] [.int 0] s_M0 _
          refine s_ek_bk 2 (P := 15) (ls' := [(0, .ref 0), (1, .int 2), (2, .int b)]) (st' := [.int (-1)]) (M' := s_M0) rfl ?_
          refine s_ek_ret (o := some (.int (-1))) (fun _ => rfl) ?_
          refine ⟨(-1), rfl, ?_⟩
          show s_Ek (s_rows 3 L xs) 1299 s_e254.1 0 [(0, .ref 151), (1, .int 2), (2, .int b)] [] s_M0 _
          refine s_ek_bk 3 (P := 3) (ls' := [(0, .ref 151), (1, .int 2), (2, .int b)]) (st' := [.int 2, .int 0, .int 2]) (M' := s_M0) rfl ?_
          refine s_ek_call (ν := s_e181.1) (P := 6) (as := [.int 2, .int 0, .int 2]) (r := []) (fun _ => rfl) rfl ?_
          show s_Ek (s_rows 3 L xs) 1298 s_e181.1 0 [(0, .int 2), (1, .int 0), (2, .int 2)] [] s_M0 _
          refine s_ek_bk 8 (P := 15) (ls' := [(0, .int 2), (1, .int 0), (2, .int 2)]) (st' := [.int 1]) (M' := s_M0) rfl ?_
          refine s_ek_ret (o := some (.int 1)) (fun _ => rfl) ?_
          show s_Ek (s_rows 3 L xs) 1299 s_e254.1 6 [(0, .ref 151), (1, .int 2), (2, .int b)] [.int 1] s_M0 _
          refine s_ek_bk 4 (P := 12) (ls' := [(0, .ref 151), (1, .int 2), (2, .int b)]) (st' := [.int 1, .int 0, .int b]) (M' := s_M0) rfl ?_
          refine s_ek_call (ν := s_e181.1) (P := 15) (as := [.int b, .int 0, .int 1]) (r := []) (fun _ => rfl) rfl ?_
          show s_Ek (s_rows 3 L xs) 1298 s_e181.1 0 [(0, .int b), (1, .int 0), (2, .int 1)] [] s_M0 _
          refine s_ek_bk 2 (P := 2) (ls' := [(0, .int b), (1, .int 0), (2, .int 1)]) (st' := [.int 0, .int b]) (M' := s_M0) rfl ?_
          refine s_ek_if2 (T := 14) rfl rfl (fun h7 => ?_) (fun h7 => ?_)
          · replace h7 : b.toInt < 0 := h7
            omega
          · replace h7 : ¬ (b.toInt < 0) := h7
            replace h7 : 0 ≤ b.toInt := by omega
            refine s_ek_bk 2 (P := 7) (ls' := [(0, .int b), (1, .int 0), (2, .int 1)]) (st' := [.int 1, .int b]) (M' := s_M0) rfl ?_
            refine s_ek_if2 (T := 14) rfl rfl (fun h8 => ?_) (fun h8 => ?_)
            · replace h8 : 1 < b.toInt := h8
              refine s_ek_bk 1 (P := 15) (ls' := [(0, .int b), (1, .int 0), (2, .int 1)]) (st' := [.int 0]) (M' := s_M0) rfl ?_
              refine s_ek_ret (o := some (.int 0)) (fun _ => rfl) ?_
              show s_Ek (s_rows 3 L xs) 1299 s_e254.1 15 [(0, .ref 151), (1, .int 2), (2, .int b)] [.int 0] s_M0 _
              refine s_ek_bk 2 (P := 19) (ls' := [(0, .ref 151), (1, .int 2), (2, .int b)]) (st' := [.int (-1)]) (M' := s_M0) rfl ?_
              refine s_ek_ret (o := some (.int (-1))) (fun _ => rfl) ?_
              exact rfl
            · replace h8 : ¬ (1 < b.toInt) := h8
              replace h8 : b.toInt ≤ 1 := by omega
              omega
        · replace h6 : ¬ (¬ b.toInt = 1) := h6
          replace h6 : b.toInt = 1 := by omega
          omega
    rcases s_rg_0_1 h3 h4 with rfl | rfl
    · exact s_ek_run s_El_rows s_cli_8 ⟨0, rfl, s_ek_run s_El_rows s_cli_9 rfl⟩
    · exact s_ek_run s_El_rows s_cli_10 ⟨(-2), rfl, s_ek_run s_El_rows s_cli_11 rfl⟩
